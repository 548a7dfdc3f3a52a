abbrev Y_X0_init : zY := (yX0_init, cX0_init, 2, none, [])
abbrev R_X0_init : Room := { frames := 1, cells := 1, slots := 1224, locals := 24 }
abbrev Y_X0_at : zY := (yX0_at, cX0_at, 2, (some .int), [])
abbrev R_X0_at : Room := { frames := 0, cells := 0, slots := 0, locals := 0 }
abbrev Y_X0_add : zY := (yX0_add, cX0_add, 2, none, [])
abbrev R_X0_add : Room := { frames := 0, cells := 0, slots := 0, locals := 0 }
abbrev Y_X0_addFour : zY := (yX0_addFour, cX0_addFour, 2, none, [])
abbrev R_X0_addFour : Room := { frames := 1, cells := 0, slots := 0, locals := 21 }
abbrev Y_X0_nameCode : zY := (yX0_nameCode, cX0_nameCode, 7, (some .int), [])
abbrev R_X0_nameCode : Room := { frames := 1, cells := 0, slots := 0, locals := 21 }
abbrev Y_X3_init : zY := (yX3_init, cX3_init, 1, none, [])
abbrev R_X3_init : Room := { frames := 1, cells := 1, slots := 6, locals := 24 }
abbrev Y_X5_init : zY := (yX5_init, cX5_init, 2, none, [])
abbrev R_X5_init : Room := { frames := 1, cells := 1, slots := 800, locals := 24 }
abbrev Y_X1_putRule : zY := (yX1_putRule, cX1_putRule, 3, none, [])
abbrev R_X1_putRule : Room := { frames := 0, cells := 0, slots := 0, locals := 0 }
abbrev Y_J7_fill_53178 : zY := (yJ7_fill_53178, cJ7_fill_53178, 4, none, [])
abbrev R_J7_fill_53178 : Room := { frames := 0, cells := 0, slots := 0, locals := 0 }
abbrev Y_X1_listOf : zY := (yX1_listOf, cX1_listOf, 3, (some (.object "PathTrust$Reports")), [])
abbrev R_X1_listOf : Room := { frames := 0, cells := 0, slots := 0, locals := 0 }
abbrev Y_X1_reset : zY := (yX1_reset, cX1_reset, 2, none, [])
abbrev R_X1_reset : Room := { frames := 1, cells := 0, slots := 0, locals := 23 }
abbrev Y_X1_init : zY := (yX1_init, cX1_init, 2, none, [])
abbrev R_X1_init : Room := { frames := 2, cells := 26, slots := 7311, locals := 45 }
abbrev Y_X1_rule : zY := (yX1_rule, cX1_rule, 2, (some .int), [])
abbrev R_X1_rule : Room := { frames := 0, cells := 0, slots := 0, locals := 0 }
abbrev Y_X3_copyFrom : zY := (yX3_copyFrom, cX3_copyFrom, 2, none, [])
abbrev R_X3_copyFrom : Room := { frames := 1, cells := 0, slots := 0, locals := 80 }
abbrev Y_X5_copyFrom : zY := (yX5_copyFrom, cX5_copyFrom, 3, none, [])
abbrev R_X5_copyFrom : Room := { frames := 1, cells := 0, slots := 0, locals := 80 }
abbrev Y_X1_become : zY := (yX1_become, cX1_become, 3, none, [])
abbrev R_X1_become : Room := { frames := 2, cells := 0, slots := 0, locals := 102 }
abbrev Y_X1_trustIn : zY := (yX1_trustIn, cX1_trustIn, 4, (some .int), [])
abbrev R_X1_trustIn : Room := { frames := 0, cells := 0, slots := 0, locals := 0 }
abbrev Y_X1_putTrust : zY := (yX1_putTrust, cX1_putTrust, 5, none, [])
abbrev R_X1_putTrust : Room := { frames := 0, cells := 0, slots := 0, locals := 0 }
abbrev Y_X1_isLinked : zY := (yX1_isLinked, cX1_isLinked, 3, (some .boolean), [])
abbrev R_X1_isLinked : Room := { frames := 1, cells := 0, slots := 0, locals := 23 }
abbrev Y_X1_linkCount : zY := (yX1_linkCount, cX1_linkCount, 4, (some .int), [])
abbrev R_X1_linkCount : Room := { frames := 2, cells := 0, slots := 0, locals := 45 }
abbrev Y_X1_accountPlace : zY := (yX1_accountPlace, cX1_accountPlace, 3, (some .int), [])
abbrev R_X1_accountPlace : Room := { frames := 0, cells := 0, slots := 0, locals := 0 }
abbrev Y_X1_tally : zY := (yX1_tally, cX1_tally, 4, none, [])
abbrev R_X1_tally : Room := { frames := 1, cells := 0, slots := 0, locals := 22 }
abbrev Y_X5_get : zY := (yX5_get, cX5_get, 4, (some .int), [])
abbrev R_X5_get : Room := { frames := 0, cells := 0, slots := 0, locals := 0 }
abbrev Y_X1_isTooOld : zY := (yX1_isTooOld, cX1_isTooOld, 3, (some .boolean), [])
abbrev R_X1_isTooOld : Room := { frames := 1, cells := 0, slots := 0, locals := 23 }
abbrev Y_X1_driftOf : zY := (yX1_driftOf, cX1_driftOf, 3, (some .int), [])
abbrev R_X1_driftOf : Room := { frames := 1, cells := 0, slots := 0, locals := 23 }
abbrev Y_X1_beliefSpread : zY := (yX1_beliefSpread, cX1_beliefSpread, 6, (some .int), [])
abbrev R_X1_beliefSpread : Room := { frames := 2, cells := 0, slots := 0, locals := 45 }
abbrev Y_X5_rowOf : zY := (yX5_rowOf, cX5_rowOf, 4, (some .int), [])
abbrev R_X5_rowOf : Room := { frames := 1, cells := 0, slots := 0, locals := 23 }
abbrev Y_X5_closeGap : zY := (yX5_closeGap, cX5_closeGap, 6, none, [])
abbrev R_X5_closeGap : Room := { frames := 1, cells := 0, slots := 0, locals := 80 }
abbrev Y_X5_removeRow : zY := (yX5_removeRow, cX5_removeRow, 2, none, [])
abbrev R_X5_removeRow : Room := { frames := 2, cells := 0, slots := 0, locals := 105 }
abbrev Y_X5_isFull : zY := (yX5_isFull, cX5_isFull, 1, (some .boolean), [])
abbrev R_X5_isFull : Room := { frames := 0, cells := 0, slots := 0, locals := 0 }
abbrev Y_X5_addRow : zY := (yX5_addRow, cX5_addRow, 1, (some .int), [])
abbrev R_X5_addRow : Room := { frames := 1, cells := 0, slots := 0, locals := 20 }
abbrev Y_X5_put : zY := (yX5_put, cX5_put, 5, none, [])
abbrev R_X5_put : Room := { frames := 0, cells := 0, slots := 0, locals := 0 }
abbrev Y_X5_lowMoved : zY := (yX5_lowMoved, cX5_lowMoved, 3, (some .int), [])
abbrev R_X5_lowMoved : Room := { frames := 1, cells := 0, slots := 0, locals := 24 }
abbrev Y_X5_highMoved : zY := (yX5_highMoved, cX5_highMoved, 3, (some .int), [])
abbrev R_X5_highMoved : Room := { frames := 1, cells := 0, slots := 0, locals := 24 }
abbrev Y_X1_judge : zY := (yX1_judge, cX1_judge, 12, (some .boolean), [])
abbrev R_X1_judge : Room := { frames := 2, cells := 0, slots := 0, locals := 46 }
abbrev Y_X1_makeProbe : zY := (yX1_makeProbe, cX1_makeProbe, 9, (some .int), [])
abbrev R_X1_makeProbe : Room := { frames := 3, cells := 0, slots := 0, locals := 126 }
abbrev Y_X5_addCopy : zY := (yX5_addCopy, cX5_addCopy, 5, (some .int), [])
abbrev R_X5_addCopy : Room := { frames := 2, cells := 0, slots := 0, locals := 40 }
abbrev Y_X1_sendReport : zY := (yX1_sendReport, cX1_sendReport, 7, none, [])
abbrev R_X1_sendReport : Room := { frames := 3, cells := 0, slots := 0, locals := 64 }
abbrev Y_X1_sendReports : zY := (yX1_sendReports, cX1_sendReports, 6, (some .int), [])
abbrev R_X1_sendReports : Room := { frames := 4, cells := 0, slots := 0, locals := 90 }
abbrev Y_X1_reasonToRefuse : zY := (yX1_reasonToRefuse, cX1_reasonToRefuse, 7, (some .int), [])
abbrev R_X1_reasonToRefuse : Room := { frames := 2, cells := 0, slots := 0, locals := 46 }
abbrev Y_X1_receive : zY := (yX1_receive, cX1_receive, 7, (some .boolean), [])
abbrev R_X1_receive : Room := { frames := 3, cells := 0, slots := 0, locals := 126 }
abbrev Y_X5_removeFirst : zY := (yX5_removeFirst, cX5_removeFirst, 2, none, [])
abbrev R_X5_removeFirst : Room := { frames := 2, cells := 0, slots := 0, locals := 105 }
abbrev Y_X1_deliverFirst : zY := (yX1_deliverFirst, cX1_deliverFirst, 5, (some .int), [])
abbrev R_X1_deliverFirst : Room := { frames := 4, cells := 0, slots := 0, locals := 152 }
abbrev Y_X1_makeRounds : zY := (yX1_makeRounds, cX1_makeRounds, 5, (some .int), [])
abbrev R_X1_makeRounds : Room := { frames := 5, cells := 0, slots := 0, locals := 176 }
abbrev Y_X1_letPass : zY := (yX1_letPass, cX1_letPass, 6, (some .int), [])
abbrev R_X1_letPass : Room := { frames := 3, cells := 0, slots := 0, locals := 126 }
abbrev Y_X2_init : zY := (yX2_init, cX2_init, 1, none, [])
abbrev R_X2_init : Room := { frames := 1, cells := 1, slots := 6, locals := 24 }
abbrev Y_X2_dropOldest : zY := (yX2_dropOldest, cX2_dropOldest, 3, none, [])
abbrev R_X2_dropOldest : Room := { frames := 0, cells := 0, slots := 0, locals := 0 }
abbrev Y_X2_push : zY := (yX2_push, cX2_push, 3, none, [])
abbrev R_X2_push : Room := { frames := 3, cells := 27, slots := 7320, locals := 124 }
abbrev Y_X3_find : zY := (yX3_find, cX3_find, 3, (some .int), [])
abbrev R_X3_find : Room := { frames := 0, cells := 0, slots := 0, locals := 0 }
abbrev Y_X3_add : zY := (yX3_add, cX3_add, 2, none, [])
abbrev R_X3_add : Room := { frames := 0, cells := 0, slots := 0, locals := 0 }
abbrev Y_X4_init : zY := (yX4_init, cX4_init, 3, none, [])
abbrev R_X4_init : Room := { frames := 1, cells := 0, slots := 0, locals := 24 }
abbrev Y_X4_kindOf : zY := (yX4_kindOf, cX4_kindOf, 1, (some .int), [])
abbrev R_X4_kindOf : Room := { frames := 0, cells := 0, slots := 0, locals := 0 }
abbrev Y_X4_next : zY := (yX4_next, cX4_next, 1, none, [])
abbrev R_X4_next : Room := { frames := 1, cells := 0, slots := 0, locals := 21 }
abbrev Y_X4_isWord : zY := (yX4_isWord, cX4_isWord, 3, (some .boolean), [])
abbrev R_X4_isWord : Room := { frames := 5, cells := 0, slots := 0, locals := 150 }
abbrev Y_X4_fail : zY := (yX4_fail, cX4_fail, 2, (some .boolean), [])
abbrev R_X4_fail : Room := { frames := 0, cells := 0, slots := 0, locals := 0 }
abbrev Y_X4_readWord : zY := (yX4_readWord, cX4_readWord, 2, (some .boolean), [])
abbrev R_X4_readWord : Room := { frames := 6, cells := 0, slots := 0, locals := 172 }
abbrev Y_X4_readNumber : zY := (yX4_readNumber, cX4_readNumber, 5, (some .boolean), [])
abbrev R_X4_readNumber : Room := { frames := 2, cells := 0, slots := 0, locals := 41 }
abbrev Y_X4_readRule : zY := (yX4_readRule, cX4_readRule, 3, (some .boolean), [])
abbrev R_X4_readRule : Room := { frames := 7, cells := 0, slots := 0, locals := 193 }
abbrev Y_X4_readSemicolon : zY := (yX4_readSemicolon, cX4_readSemicolon, 1, (some .boolean), [])
abbrev R_X4_readSemicolon : Room := { frames := 2, cells := 0, slots := 0, locals := 41 }
abbrev Y_X4_readRules : zY := (yX4_readRules, cX4_readRules, 1, (some .boolean), [])
abbrev R_X4_readRules : Room := { frames := 8, cells := 0, slots := 0, locals := 215 }
abbrev Y_X4_isName : zY := (yX4_isName, cX4_isName, 2, (some .boolean), [])
abbrev R_X4_isName : Room := { frames := 6, cells := 0, slots := 0, locals := 172 }
abbrev Y_X4_readNewName : zY := (yX4_readNewName, cX4_readNewName, 3, (some .boolean), [])
abbrev R_X4_readNewName : Room := { frames := 7, cells := 0, slots := 0, locals := 193 }
abbrev Y_X4_isNameOf : zY := (yX4_isNameOf, cX4_isNameOf, 2, (some .boolean), [])
abbrev R_X4_isNameOf : Room := { frames := 7, cells := 0, slots := 0, locals := 193 }
abbrev Y_X4_readLink : zY := (yX4_readLink, cX4_readLink, 4, (some .boolean), [])
abbrev R_X4_readLink : Room := { frames := 8, cells := 0, slots := 0, locals := 214 }
abbrev Y_X4_readProbe : zY := (yX4_readProbe, cX4_readProbe, 4, (some .boolean), [])
abbrev R_X4_readProbe : Room := { frames := 8, cells := 0, slots := 0, locals := 214 }
abbrev Y_X4_parse : zY := (yX4_parse, cX4_parse, 3, (some .boolean), [])
abbrev R_X4_parse : Room := { frames := 9, cells := 0, slots := 0, locals := 237 }
abbrev Y_X7_contains : zY := (yX7_contains, cX7_contains, 2, (some .boolean), [])
abbrev R_X7_contains : Room := { frames := 0, cells := 0, slots := 0, locals := 0 }
abbrev Y_X5_removeAll : zY := (yX5_removeAll, cX5_removeAll, 5, (some .int), [])
abbrev R_X5_removeAll : Room := { frames := 3, cells := 0, slots := 0, locals := 126 }
abbrev Y_X6_init : zY := (yX6_init, cX6_init, 1, none, [])
abbrev R_X6_init : Room := { frames := 1, cells := 6, slots := 36, locals := 24 }
abbrev Y_X6_note : zY := (yX6_note, cX6_note, 10, none, [])
abbrev R_X6_note : Room := { frames := 3, cells := 0, slots := 0, locals := 70 }
abbrev Y_X6_nextToTake : zY := (yX6_nextToTake, cX6_nextToTake, 4, (some .int), [])
abbrev R_X6_nextToTake : Room := { frames := 0, cells := 0, slots := 0, locals := 0 }
abbrev Y_X6_take : zY := (yX6_take, cX6_take, 4, none, [])
abbrev R_X6_take : Room := { frames := 1, cells := 0, slots := 0, locals := 24 }
abbrev Y_X6_form : zY := (yX6_form, cX6_form, 7, none, [])
abbrev R_X6_form : Room := { frames := 4, cells := 0, slots := 0, locals := 99 }
abbrev Y_X6_statusOf : zY := (yX6_statusOf, cX6_statusOf, 3, (some .int), [])
abbrev R_X6_statusOf : Room := { frames := 0, cells := 0, slots := 0, locals := 0 }
abbrev Y_X6_originsWith : zY := (yX6_originsWith, cX6_originsWith, 4, (some .int), [])
abbrev R_X6_originsWith : Room := { frames := 0, cells := 0, slots := 0, locals := 0 }
abbrev Y_X6_originsAround : zY := (yX6_originsAround, cX6_originsAround, 4, (some .int), [])
abbrev R_X6_originsAround : Room := { frames := 0, cells := 0, slots := 0, locals := 0 }
abbrev Y_J6_bitCount_0f7a4 : zY := (yJ6_bitCount_0f7a4, cJ6_bitCount_0f7a4, 1, (some .int), [])
abbrev R_J6_bitCount_0f7a4 : Room := { frames := 0, cells := 0, slots := 0, locals := 0 }
abbrev Y_X6_largestSet : zY := (yX6_largestSet, cX6_largestSet, 5, (some .int), [])
abbrev R_X6_largestSet : Room := { frames := 1, cells := 0, slots := 0, locals := 23 }
abbrev Y_X6_lowOf : zY := (yX6_lowOf, cX6_lowOf, 4, (some .int), [])
abbrev R_X6_lowOf : Room := { frames := 1, cells := 0, slots := 0, locals := 24 }
abbrev Y_X6_highOf : zY := (yX6_highOf, cX6_highOf, 4, (some .int), [])
abbrev R_X6_highOf : Room := { frames := 1, cells := 0, slots := 0, locals := 24 }
abbrev Y_X7_init : zY := (yX7_init, cX7_init, 1, none, [])
abbrev R_X7_init : Room := { frames := 3, cells := 69, slots := 17155, locals := 66 }
abbrev Y_X7_append : zY := (yX7_append, cX7_append, 6, (some .int), [])
abbrev R_X7_append : Room := { frames := 2, cells := 0, slots := 0, locals := 42 }
abbrev Y_X7_checkRange : zY := (yX7_checkRange, cX7_checkRange, 3, none, [])
abbrev R_X7_checkRange : Room := { frames := 0, cells := 0, slots := 0, locals := 0 }
abbrev Y_X7_truncate : zY := (yX7_truncate, cX7_truncate, 2, none, [])
abbrev R_X7_truncate : Room := { frames := 1, cells := 0, slots := 0, locals := 22 }
abbrev Y_X7_load : zY := (yX7_load, cX7_load, 2, (some .int), [])
abbrev R_X7_load : Room := { frames := 10, cells := 27, slots := 7320, locals := 259 }
abbrev Y_X7_errorCode : zY := (yX7_errorCode, cX7_errorCode, 1, (some .int), [])
abbrev R_X7_errorCode : Room := { frames := 0, cells := 0, slots := 0, locals := 0 }
abbrev Y_X7_errorPosition : zY := (yX7_errorPosition, cX7_errorPosition, 1, (some .int), [])
abbrev R_X7_errorPosition : Room := { frames := 0, cells := 0, slots := 0, locals := 0 }
abbrev Y_X7_property : zY := (yX7_property, cX7_property, 2, (some .int), [])
abbrev R_X7_property : Room := { frames := 3, cells := 0, slots := 0, locals := 68 }
abbrev Y_X7_checkAgent : zY := (yX7_checkAgent, cX7_checkAgent, 2, none, [])
abbrev R_X7_checkAgent : Room := { frames := 0, cells := 0, slots := 0, locals := 0 }
abbrev Y_X7_trust : zY := (yX7_trust, cX7_trust, 3, (some .int), [])
abbrev R_X7_trust : Room := { frames := 1, cells := 0, slots := 0, locals := 23 }
abbrev Y_X7_reports : zY := (yX7_reports, cX7_reports, 2, (some .int), [])
abbrev R_X7_reports : Room := { frames := 1, cells := 0, slots := 0, locals := 22 }
abbrev Y_X7_checkReport : zY := (yX7_checkReport, cX7_checkReport, 3, none, [])
abbrev R_X7_checkReport : Room := { frames := 1, cells := 0, slots := 0, locals := 22 }
abbrev Y_X7_report : zY := (yX7_report, cX7_report, 4, (some .int), [])
abbrev R_X7_report : Room := { frames := 2, cells := 0, slots := 0, locals := 44 }
abbrev Y_X7_statusIn : zY := (yX7_statusIn, cX7_statusIn, 3, (some .int), [])
abbrev R_X7_statusIn : Room := { frames := 5, cells := 0, slots := 0, locals := 125 }
abbrev Y_X7_status : zY := (yX7_status, cX7_status, 3, (some .int), [])
abbrev R_X7_status : Room := { frames := 6, cells := 0, slots := 0, locals := 147 }
abbrev Y_X7_moved : zY := (yX7_moved, cX7_moved, 7, (some .int), [])
abbrev R_X7_moved : Room := { frames := 3, cells := 0, slots := 0, locals := 70 }
abbrev Y_X7_checkWay : zY := (yX7_checkWay, cX7_checkWay, 2, none, [])
abbrev R_X7_checkWay : Room := { frames := 0, cells := 0, slots := 0, locals := 0 }
abbrev Y_X7_own : zY := (yX7_own, cX7_own, 3, (some .int), [])
abbrev R_X7_own : Room := { frames := 2, cells := 0, slots := 0, locals := 46 }
abbrev Y_X7_believed : zY := (yX7_believed, cX7_believed, 5, (some .int), [])
abbrev R_X7_believed : Room := { frames := 5, cells := 0, slots := 0, locals := 125 }
abbrev Y_X7_belief : zY := (yX7_belief, cX7_belief, 4, (some .int), [])
abbrev R_X7_belief : Room := { frames := 6, cells := 0, slots := 0, locals := 149 }
abbrev Y_X7_originsOf : zY := (yX7_originsOf, cX7_originsOf, 4, (some .int), [])
abbrev R_X7_originsOf : Room := { frames := 5, cells := 0, slots := 0, locals := 125 }
abbrev Y_X7_sources : zY := (yX7_sources, cX7_sources, 3, (some .int), [])
abbrev R_X7_sources : Room := { frames := 6, cells := 0, slots := 0, locals := 148 }
abbrev Y_X7_contradicted : zY := (yX7_contradicted, cX7_contradicted, 3, (some .int), [])
abbrev R_X7_contradicted : Room := { frames := 6, cells := 0, slots := 0, locals := 148 }
abbrev Y_X7_majority : zY := (yX7_majority, cX7_majority, 3, (some .int), [])
abbrev R_X7_majority : Room := { frames := 5, cells := 0, slots := 0, locals := 125 }
abbrev Y_X7_majorityBound : zY := (yX7_majorityBound, cX7_majorityBound, 5, (some .int), [])
abbrev R_X7_majorityBound : Room := { frames := 5, cells := 0, slots := 0, locals := 125 }
abbrev Y_X7_bestWay : zY := (yX7_bestWay, cX7_bestWay, 8, (some .int), [])
abbrev R_X7_bestWay : Room := { frames := 5, cells := 0, slots := 0, locals := 125 }
abbrev Y_X7_best : zY := (yX7_best, cX7_best, 3, (some .int), [])
abbrev R_X7_best : Room := { frames := 6, cells := 0, slots := 0, locals := 152 }
abbrev Y_X7_rivalsOf : zY := (yX7_rivalsOf, cX7_rivalsOf, 6, (some .int), [])
abbrev R_X7_rivalsOf : Room := { frames := 5, cells := 0, slots := 0, locals := 125 }
abbrev Y_X7_rivals : zY := (yX7_rivals, cX7_rivals, 2, (some .int), [])
abbrev R_X7_rivals : Room := { frames := 6, cells := 0, slots := 0, locals := 152 }
abbrev Y_X7_widthOf : zY := (yX7_widthOf, cX7_widthOf, 5, (some .int), [])
abbrev R_X7_widthOf : Room := { frames := 5, cells := 0, slots := 0, locals := 125 }
abbrev Y_X7_nextProbe : zY := (yX7_nextProbe, cX7_nextProbe, 8, (some .int), [])
abbrev R_X7_nextProbe : Room := { frames := 6, cells := 0, slots := 0, locals := 152 }
abbrev Y_X7_regret : zY := (yX7_regret, cX7_regret, 4, (some .int), [])
abbrev R_X7_regret : Room := { frames := 6, cells := 0, slots := 0, locals := 152 }
abbrev Y_X7_saved : zY := (yX7_saved, cX7_saved, 4, (some .int), [])
abbrev R_X7_saved : Room := { frames := 6, cells := 0, slots := 0, locals := 149 }
abbrev Y_X7_agreeing : zY := (yX7_agreeing, cX7_agreeing, 7, (some .int), [])
abbrev R_X7_agreeing : Room := { frames := 6, cells := 0, slots := 0, locals := 149 }
abbrev Y_X7_common : zY := (yX7_common, cX7_common, 10, (some .int), [])
abbrev R_X7_common : Room := { frames := 2, cells := 0, slots := 0, locals := 46 }
abbrev Y_X7_checkBounds : zY := (yX7_checkBounds, cX7_checkBounds, 2, none, [])
abbrev R_X7_checkBounds : Room := { frames := 1, cells := 0, slots := 0, locals := 22 }
abbrev Y_X7_probe : zY := (yX7_probe, cX7_probe, 5, (some .int), [])
abbrev R_X7_probe : Room := { frames := 4, cells := 27, slots := 7320, locals := 154 }
abbrev Y_X7_share : zY := (yX7_share, cX7_share, 2, (some .int), [])
abbrev R_X7_share : Room := { frames := 5, cells := 27, slots := 7320, locals := 146 }
abbrev Y_X7_relay : zY := (yX7_relay, cX7_relay, 2, (some .int), [])
abbrev R_X7_relay : Room := { frames := 5, cells := 27, slots := 7320, locals := 146 }
abbrev Y_X7_deliver : zY := (yX7_deliver, cX7_deliver, 2, (some .int), [])
abbrev R_X7_deliver : Room := { frames := 5, cells := 27, slots := 7320, locals := 176 }
abbrev Y_X7_exchange : zY := (yX7_exchange, cX7_exchange, 2, (some .int), [])
abbrev R_X7_exchange : Room := { frames := 6, cells := 27, slots := 7320, locals := 200 }
abbrev Y_X7_pass : zY := (yX7_pass, cX7_pass, 2, (some .int), [])
abbrev R_X7_pass : Room := { frames := 4, cells := 27, slots := 7320, locals := 151 }
abbrev Y_X7_link : zY := (yX7_link, cX7_link, 6, (some .boolean), [])
abbrev R_X7_link : Room := { frames := 4, cells := 27, slots := 7320, locals := 146 }
abbrev Y_X7_isRuleValue : zY := (yX7_isRuleValue, cX7_isRuleValue, 2, (some .boolean), [])
abbrev R_X7_isRuleValue : Room := { frames := 0, cells := 0, slots := 0, locals := 0 }
abbrev Y_X7_setRule : zY := (yX7_setRule, cX7_setRule, 4, (some .int), [])
abbrev R_X7_setRule : Room := { frames := 4, cells := 27, slots := 7320, locals := 146 }
abbrev Y_X7_forget : zY := (yX7_forget, cX7_forget, 3, (some .int), [])
abbrev R_X7_forget : Room := { frames := 4, cells := 27, slots := 7320, locals := 150 }
abbrev Y_X7_cleanse : zY := (yX7_cleanse, cX7_cleanse, 4, (some .int), [])
abbrev R_X7_cleanse : Room := { frames := 6, cells := 27, slots := 7320, locals := 150 }
abbrev Y_L_draw : zY := (yL_draw, cL_draw, 3, (some .int), [])
abbrev R_L_draw : Room := { frames := 0, cells := 0, slots := 0, locals := 0 }
abbrev Y_J0_coder_7d493 : zY := (yJ0_coder_7d493, cJ0_coder_7d493, 1, (some .byte), [])
abbrev R_J0_coder_7d493 : Room := { frames := 0, cells := 0, slots := 0, locals := 0 }
abbrev Y_J0_length_8abf5 : zY := (yJ0_length_8abf5, cJ0_length_8abf5, 1, (some .int), [])
abbrev R_J0_length_8abf5 : Room := { frames := 1, cells := 0, slots := 0, locals := 20 }
abbrev Y_J0_isLatin1_aae02 : zY := (yJ0_isLatin1_aae02, cJ0_isLatin1_aae02, 1, (some .boolean), [])
abbrev R_J0_isLatin1_aae02 : Room := { frames := 0, cells := 0, slots := 0, locals := 0 }
abbrev Y_J1_charAt_3b067 : zY := (yJ1_charAt_3b067, cJ1_charAt_3b067, 2, (some .char), [])
abbrev R_J1_charAt_3b067 : Room := { frames := 3, cells := 0, slots := 0, locals := 60 }
abbrev Y_J0_charAt_5068e : zY := (yJ0_charAt_5068e, cJ0_charAt_5068e, 2, (some .char), [])
abbrev R_J0_charAt_5068e : Room := { frames := 4, cells := 0, slots := 0, locals := 81 }
abbrev Y_L_four : zY := (yL_four, cL_four, 4, (some .int), [])
abbrev R_L_four : Room := { frames := 5, cells := 0, slots := 0, locals := 102 }
abbrev Y_L_feed : zY := (yL_feed, cL_feed, 4, none, [])
abbrev R_L_feed : Room := { frames := 6, cells := 0, slots := 0, locals := 125 }
abbrev Y_J8_newLength_cabcc : zY := (yJ8_newLength_cabcc, cJ8_newLength_cabcc, 4, (some .int), [])
abbrev R_J8_newLength_cabcc : Room := { frames := 1, cells := 0, slots := 0, locals := 24 }
abbrev Y_J5_newCapacity_0f7a4 : zY := (yJ5_newCapacity_0f7a4, cJ5_newCapacity_0f7a4, 6, (some .int), [])
abbrev R_J5_newCapacity_0f7a4 : Room := { frames := 2, cells := 0, slots := 0, locals := 47 }
abbrev Y_J7_copyOf_9075b : zY := (yJ7_copyOf_9075b, cJ7_copyOf_9075b, 3, (some (.array .byte)), [])
abbrev R_J7_copyOf_9075b : Room := { frames := 1, cells := 1, slots := 1024, locals := 80 }
abbrev Y_J5_ensureCapacityInternal_d00df : zY := (yJ5_ensureCapacityInternal_d00df, cJ5_ensureCapacityInternal_d00df, 3, none, [])
abbrev R_J5_ensureCapacityInternal_d00df : Room := { frames := 3, cells := 1, slots := 1024, locals := 102 }
abbrev Y_J5_inflateIfNeededFor_a7421 : zY := (yJ5_inflateIfNeededFor_a7421, cJ5_inflateIfNeededFor_a7421, 2, none, [])
abbrev R_J5_inflateIfNeededFor_a7421 : Room := { frames := 5, cells := 0, slots := 0, locals := 150 }
abbrev Y_J0_getBytes_840e7 : zY := (yJ0_getBytes_840e7, cJ0_getBytes_840e7, 4, none, [])
abbrev R_J0_getBytes_840e7 : Room := { frames := 5, cells := 0, slots := 0, locals := 150 }
abbrev Y_J5_putStringAt_47b60 : zY := (yJ5_putStringAt_47b60, cJ5_putStringAt_47b60, 3, none, [])
abbrev R_J5_putStringAt_47b60 : Room := { frames := 6, cells := 0, slots := 0, locals := 173 }
abbrev Y_J5_append_cf1ce : zY := (yJ5_append_cf1ce, cJ5_append_cf1ce, 3, (some (.object "java/lang/AbstractStringBuilder")), [])
abbrev R_J5_append_cf1ce : Room := { frames := 7, cells := 1, slots := 1024, locals := 195 }
abbrev Y_J4_append_15ec4 : zY := (yJ4_append_15ec4, cJ4_append_15ec4, 2, (some (.object "java/lang/StringBuilder")), [])
abbrev R_J4_append_15ec4 : Room := { frames := 8, cells := 1, slots := 1024, locals := 217 }
abbrev Y_J4_append_cf1ce : zY := (yJ4_append_cf1ce, cJ4_append_cf1ce, 2, (some (.object "java/lang/AbstractStringBuilder")), [])
abbrev R_J4_append_cf1ce : Room := { frames := 9, cells := 1, slots := 1024, locals := 238 }
abbrev Y_J5_init_a7421 : zY := (yJ5_init_a7421, cJ5_init_a7421, 5, none, [])
abbrev R_J5_init_a7421 : Room := { frames := 10, cells := 2, slots := 1088, locals := 259 }
abbrev Y_J4_init_a7421 : zY := (yJ4_init_a7421, cJ4_init_a7421, 2, none, [])
abbrev R_J4_init_a7421 : Room := { frames := 11, cells := 2, slots := 1088, locals := 283 }
abbrev Y_J6_stringSize_0f7a4 : zY := (yJ6_stringSize_0f7a4, cJ6_stringSize_0f7a4, 4, (some .int), [])
abbrev R_J6_stringSize_0f7a4 : Room := { frames := 0, cells := 0, slots := 0, locals := 0 }
abbrev Y_J5_isLatin1_aae02 : zY := (yJ5_isLatin1_aae02, cJ5_isLatin1_aae02, 1, (some .boolean), [])
abbrev R_J5_isLatin1_aae02 : Room := { frames := 0, cells := 0, slots := 0, locals := 0 }
abbrev Y_J6_getChars_ba4f3 : zY := (yJ6_getChars_ba4f3, cJ6_getChars_ba4f3, 7, (some .int), [])
abbrev R_J6_getChars_ba4f3 : Room := { frames := 0, cells := 0, slots := 0, locals := 0 }
abbrev Y_J5_append_c97b9 : zY := (yJ5_append_c97b9, cJ5_append_c97b9, 4, (some (.object "java/lang/AbstractStringBuilder")), [])
abbrev R_J5_append_c97b9 : Room := { frames := 4, cells := 1, slots := 1024, locals := 124 }
abbrev Y_J4_append_bf812 : zY := (yJ4_append_bf812, cJ4_append_bf812, 2, (some (.object "java/lang/StringBuilder")), [])
abbrev R_J4_append_bf812 : Room := { frames := 5, cells := 1, slots := 1024, locals := 147 }
abbrev Y_J1_canEncode_fc78d : zY := (yJ1_canEncode_fc78d, cJ1_canEncode_fc78d, 1, (some .boolean), [])
abbrev R_J1_canEncode_fc78d : Room := { frames := 0, cells := 0, slots := 0, locals := 0 }
abbrev Y_J5_append_3fe6f : zY := (yJ5_append_3fe6f, cJ5_append_3fe6f, 2, (some (.object "java/lang/AbstractStringBuilder")), [])
abbrev R_J5_append_3fe6f : Room := { frames := 4, cells := 1, slots := 1024, locals := 124 }
abbrev Y_J4_append_cf468 : zY := (yJ4_append_cf468, cJ4_append_cf468, 2, (some (.object "java/lang/StringBuilder")), [])
abbrev R_J4_append_cf468 : Room := { frames := 5, cells := 1, slots := 1024, locals := 145 }
abbrev Y_J5_length_8abf5 : zY := (yJ5_length_8abf5, cJ5_length_8abf5, 1, (some .int), [])
abbrev R_J5_length_8abf5 : Room := { frames := 0, cells := 0, slots := 0, locals := 0 }
abbrev Y_J4_length_8abf5 : zY := (yJ4_length_8abf5, cJ4_length_8abf5, 1, (some .int), [])
abbrev R_J4_length_8abf5 : Room := { frames := 1, cells := 0, slots := 0, locals := 20 }
abbrev Y_J5_getValue_6d5f1 : zY := (yJ5_getValue_6d5f1, cJ5_getValue_6d5f1, 1, (some (.array .byte)), [])
abbrev R_J5_getValue_6d5f1 : Room := { frames := 0, cells := 0, slots := 0, locals := 0 }
abbrev Y_J7_checkLength_df160 : zY := (yJ7_checkLength_df160, cJ7_checkLength_df160, 2, none, [])
abbrev R_J7_checkLength_df160 : Room := { frames := 0, cells := 0, slots := 0, locals := 0 }
abbrev Y_J7_copyOfRangeByte_39247 : zY := (yJ7_copyOfRangeByte_39247, cJ7_copyOfRangeByte_39247, 5, (some (.array .byte)), [])
abbrev R_J7_copyOfRangeByte_39247 : Room := { frames := 1, cells := 1, slots := 1024, locals := 80 }
abbrev Y_J7_copyOfRange_39247 : zY := (yJ7_copyOfRange_39247, cJ7_copyOfRange_39247, 3, (some (.array .byte)), [])
abbrev R_J7_copyOfRange_39247 : Room := { frames := 2, cells := 1, slots := 1024, locals := 104 }
abbrev Y_J0_init_db425 : zY := (yJ0_init_db425, cJ0_init_db425, 5, none, [])
abbrev R_J0_init_db425 : Room := { frames := 3, cells := 1, slots := 1024, locals := 126 }
abbrev Y_J0_init_81219 : zY := (yJ0_init_81219, cJ0_init_81219, 2, none, [])
abbrev R_J0_init_81219 : Room := { frames := 4, cells := 1, slots := 1024, locals := 150 }
abbrev Y_J4_toString_0e30d : zY := (yJ4_toString_0e30d, cJ4_toString_0e30d, 1, (some (.object "java/lang/String")), [])
abbrev R_J4_toString_0e30d : Room := { frames := 5, cells := 2, slots := 1028, locals := 171 }
abbrev Y_L_load : zY := (yL_load, cL_load, 9, (some .boolean), [])
abbrev R_L_load : Room := { frames := 12, cells := 339, slots := 324676, locals := 304 }
abbrev Y_L_act : zY := (yL_act, cL_act, 7, (some .int), [])
abbrev R_L_act : Room := { frames := 7, cells := 27, slots := 7320, locals := 221 }
abbrev Y_L_low : zY := (yL_low, cL_low, 4, (some .int), [])
abbrev R_L_low : Room := { frames := 3, cells := 0, slots := 0, locals := 67 }
abbrev Y_L_top : zY := (yL_top, cL_top, 4, (some .int), [])
abbrev R_L_top : Room := { frames := 3, cells := 0, slots := 0, locals := 67 }
abbrev Y_L_drift : zY := (yL_drift, cL_drift, 3, (some .int), [])
abbrev R_L_drift : Room := { frames := 4, cells := 0, slots := 0, locals := 89 }
abbrev Y_L_ahead : zY := (yL_ahead, cL_ahead, 8, (some .boolean), [])
abbrev R_L_ahead : Room := { frames := 3, cells := 0, slots := 0, locals := 67 }
abbrev Y_L_isOut : zY := (yL_isOut, cL_isOut, 3, (some .boolean), [])
abbrev R_L_isOut : Room := { frames := 4, cells := 0, slots := 0, locals := 89 }
abbrev Y_L_by : zY := (yL_by, cL_by, 3, (some .int), [])
abbrev R_L_by : Room := { frames := 5, cells := 0, slots := 0, locals := 111 }
abbrev Y_L_agrees : zY := (yL_agrees, cL_agrees, 13, (some .boolean), [])
abbrev R_L_agrees : Room := { frames := 6, cells := 1, slots := 6, locals := 149 }
abbrev Y_L_believes : zY := (yL_believes, cL_believes, 16, (some .boolean), [])
abbrev R_L_believes : Room := { frames := 7, cells := 2, slots := 42, locals := 181 }
abbrev Y_L_width : zY := (yL_width, cL_width, 3, (some .int), [])
abbrev R_L_width : Room := { frames := 7, cells := 0, slots := 0, locals := 172 }
abbrev Y_L_chooses : zY := (yL_chooses, cL_chooses, 9, (some .boolean), [])
abbrev R_L_chooses : Room := { frames := 8, cells := 1, slots := 3, locals := 194 }
abbrev Y_L_commons : zY := (yL_commons, cL_commons, 6, (some .boolean), [])
abbrev R_L_commons : Room := { frames := 7, cells := 0, slots := 0, locals := 175 }
abbrev Y_L_holds : zY := (yL_holds, cL_holds, 3, (some .boolean), [])
abbrev R_L_holds : Room := { frames := 9, cells := 105, slots := 2079, locals := 222 }
abbrev Y_L_law : zY := (yL_law, cL_law, 4, (some .boolean), [])
abbrev R_L_law : Room := room_1
-- room: 13 frames, 2494 cells, 484903 slots, 332 locals
theorem oi_X0_3 : zL (.methodLink RX0 3 objectInit) ∧ zL (.instanceMethod objectInit) ∧ zL (.code objectInit ⟨#[0xb1]⟩ 1 none) := ⟨wd_118, wd_111, wd_112⟩
theorem zu_X0 : ∀ w ∈ u_ws RX0 TX0 2, zL w := List.forall_mem_cons.mpr ⟨wd_123, List.forall_mem_cons.mpr ⟨wd_125, fun _ h => nomatch h⟩⟩
theorem fd_X0_9 : zFd RX0 9 0 0 := ⟨(RX0, TX0, 2), rfl, by decide, zu_X0, Or.inl wd_119⟩
theorem fp_X0_init_9 : zFp Y_X0_init 9 0 0 4 := ⟨(RX0, TX0, 2), tyX0, rfl, tyX0_ok, nmX0, rfl, Or.inr ⟨_, rfl⟩, Or.inr ⟨rfl, rfl, rfl, wd_119⟩⟩
theorem fd_X0_15 : zFd RX0 15 0 1 := ⟨(RX0, TX0, 2), rfl, by decide, zu_X0, Or.inl wd_121⟩
theorem fp_X0_add_15 : zFp Y_X0_add 15 0 1 0 := ⟨(RX0, TX0, 2), tyX0, rfl, tyX0_ok, nmX0, rfl, rfl, Or.inl rfl⟩
theorem k0_X0_add : zk0 Y_X0_add 1 := ⟨wd_715, wd_80, ⟨by decide, by decide, by decide +kernel⟩, rfl⟩
theorem kl_X0_19 : zkL RX0 19 Y_X0_add := Or.inl wd_712
theorem kV_X0_add : zkV Y_X0_add := ⟨wd_714, wd_5⟩
theorem k0_X0_at : zk0 Y_X0_at 1 := ⟨wd_756, wd_80, ⟨by decide, by decide, by decide +kernel⟩, rfl⟩
theorem kl_X0_24 : zkL RX0 24 Y_X0_at := Or.inl wd_819
theorem kV_X0_at : zkV Y_X0_at := ⟨wd_755, wd_8⟩
theorem oi_X3_3 : zL (.methodLink RX3 3 objectInit) ∧ zL (.instanceMethod objectInit) ∧ zL (.code objectInit ⟨#[0xb1]⟩ 1 none) := ⟨wd_177, wd_111, wd_112⟩
theorem zu_X3 : ∀ w ∈ u_ws RX3 TX3 2, zL w := List.forall_mem_cons.mpr ⟨wd_183, List.forall_mem_cons.mpr ⟨wd_185, fun _ h => nomatch h⟩⟩
theorem fd_X3_9 : zFd RX3 9 3 0 := ⟨(RX3, TX3, 2), rfl, by decide, zu_X3, Or.inl wd_178⟩
theorem fp_X3_init_9 : zFp Y_X3_init 9 3 0 4 := ⟨(RX3, TX3, 2), tyX3, rfl, tyX3_ok, nmX3, rfl, Or.inr ⟨_, rfl⟩, Or.inr ⟨rfl, rfl, rfl, wd_178⟩⟩
theorem oi_X5_3 : zL (.methodLink RX5 3 objectInit) ∧ zL (.instanceMethod objectInit) ∧ zL (.code objectInit ⟨#[0xb1]⟩ 1 none) := ⟨wd_194, wd_111, wd_112⟩
theorem zu_X5 : ∀ w ∈ u_ws RX5 TX5 2, zL w := List.forall_mem_cons.mpr ⟨wd_200, List.forall_mem_cons.mpr ⟨wd_202, fun _ h => nomatch h⟩⟩
theorem fd_X5_9 : zFd RX5 9 5 0 := ⟨(RX5, TX5, 2), rfl, by decide, zu_X5, Or.inl wd_195⟩
theorem fp_X5_init_9 : zFp Y_X5_init 9 5 0 4 := ⟨(RX5, TX5, 2), tyX5, rfl, tyX5_ok, nmX5, rfl, Or.inr ⟨_, rfl⟩, Or.inr ⟨rfl, rfl, rfl, wd_195⟩⟩
theorem zu_X1 : ∀ w ∈ u_ws RX1 TX1 9, zL w := List.forall_mem_cons.mpr ⟨wd_237, List.forall_mem_cons.mpr ⟨wd_239, List.forall_mem_cons.mpr ⟨wd_241, List.forall_mem_cons.mpr ⟨wd_243, List.forall_mem_cons.mpr ⟨wd_245, List.forall_mem_cons.mpr ⟨wd_247, List.forall_mem_cons.mpr ⟨wd_249, List.forall_mem_cons.mpr ⟨wd_251, List.forall_mem_cons.mpr ⟨wd_253, fun _ h => nomatch h⟩⟩⟩⟩⟩⟩⟩⟩⟩
theorem fd_X1_9 : zFd RX1 9 1 0 := ⟨(RX1, TX1, 9), rfl, by decide, zu_X1, Or.inl wd_222⟩
theorem fd_X1_37 : zFd RX1 37 1 5 := ⟨(RX1, TX1, 9), rfl, by decide, zu_X1, Or.inl wd_231⟩
theorem fd_X1_30 : zFd RX1 30 1 4 := ⟨(RX1, TX1, 9), rfl, by decide, zu_X1, Or.inl wd_230⟩
theorem fd_X1_41 : zFd RX1 41 1 6 := ⟨(RX1, TX1, 9), rfl, by decide, zu_X1, Or.inl wd_232⟩
theorem fd_X1_71 : zFd RX1 71 5 1 := ⟨(RX5, TX5, 2), rfl, by decide, zu_X5, Or.inr ⟨"PathTrust", wd_198⟩⟩
theorem fp_X1_reset_71 : zFp Y_X1_reset 71 5 1 0 := ⟨(RX5, TX5, 2), tyX5, rfl, tyX5_ok, nmX5, rfl, rfl, Or.inl rfl⟩
theorem fd_X1_44 : zFd RX1 44 1 7 := ⟨(RX1, TX1, 9), rfl, by decide, zu_X1, Or.inl wd_234⟩
theorem fd_X1_72 : zFd RX1 72 1 8 := ⟨(RX1, TX1, 9), rfl, by decide, zu_X1, Or.inl wd_235⟩
theorem fp_X1_reset_72 : zFp Y_X1_reset 72 1 8 0 := ⟨(RX1, TX1, 9), tyX1, rfl, tyX1_ok, nmX1, rfl, rfl, Or.inl rfl⟩
theorem k0_J7_fill_53178 : zk0 Y_J7_fill_53178 2 := ⟨wd_217, wd_85, ⟨by decide, by decide, by decide +kernel⟩, rfl⟩
theorem kl_X1_61 : zkL RX1 61 Y_J7_fill_53178 := Or.inl wd_215
theorem k0_X1_listOf : zk0 Y_X1_listOf 1 := ⟨wd_221, wd_82, ⟨by decide, by decide, by decide +kernel⟩, rfl⟩
theorem kl_X1_67 : zkL RX1 67 Y_X1_listOf := Or.inl wd_218
theorem kV_X1_listOf : zkV Y_X1_listOf := ⟨wd_220, wd_2⟩
theorem fd_X1_18 : zFd RX1 18 1 1 := ⟨(RX1, TX1, 9), rfl, by decide, zu_X1, Or.inl wd_223⟩
theorem fd_X1_57 : zFd RX1 57 3 1 := ⟨(RX3, TX3, 2), rfl, by decide, zu_X3, Or.inr ⟨"PathTrust", wd_180⟩⟩
theorem fp_X1_reset_57 : zFp Y_X1_reset 57 3 1 0 := ⟨(RX3, TX3, 2), tyX3, rfl, tyX3_ok, nmX3, rfl, rfl, Or.inl rfl⟩
theorem fd_X1_22 : zFd RX1 22 1 2 := ⟨(RX1, TX1, 9), rfl, by decide, zu_X1, Or.inl wd_226⟩
theorem fd_X1_25 : zFd RX1 25 1 3 := ⟨(RX1, TX1, 9), rfl, by decide, zu_X1, Or.inl wd_229⟩
theorem k0_X1_putRule : zk0 Y_X1_putRule 2 := ⟨wd_214, wd_82, ⟨by decide, by decide, by decide +kernel⟩, rfl⟩
theorem kl_X1_53 : zkL RX1 53 Y_X1_putRule := Or.inl wd_211
theorem kV_X1_putRule : zkV Y_X1_putRule := ⟨wd_213, wd_1⟩
theorem k0_X1_reset : zk0 Y_X1_reset 0 := ⟨wd_208, wd_82, ⟨by decide, by decide, by decide +kernel⟩, rfl⟩
theorem kl_X1_47 : zkL RX1 47 Y_X1_reset := Or.inl wd_205
theorem kV_X1_reset : zkV Y_X1_reset := ⟨wd_207, wd_0⟩
theorem df_X5 : (∀ j, j < 2 → defaultValue (tyX5 j) = if zfe 5 j = 4 then .null else .int 0) ∧ ∀ j, j < 2 → zfe 5 j = 0 ∨ zfe 5 j = 4 := ⟨fun j hj => by
    rcases (show j = 0 ∨ j = 1 by omega) with rfl | rfl <;> rfl,
  by decide⟩
theorem nw_X1_28 : zNw RX1 28 5 := ⟨(RX5, TX5, 2), tyX5, rfl, zu_X5, tyX5_ok, wd_188, wd_190, wd_84, df_X5.1, df_X5.2⟩
theorem k0_X5_init : zk0 Y_X5_init 1 := ⟨wd_193, wd_84, ⟨by decide, by decide, by decide +kernel⟩, rfl⟩
theorem kl_X1_34 : zkL RX1 34 Y_X5_init := Or.inr ⟨"PathTrust", wd_191⟩
theorem kI_X5_init : (Y_X5_init).1.name = "<init>" ∧ zL (.instanceMethod (Y_X5_init).1) ∧ (Y_X5_init).2.2.2.1 = none := ⟨rfl, wd_192, rfl⟩
theorem oi_X1_3 : zL (.methodLink RX1 3 objectInit) ∧ zL (.instanceMethod objectInit) ∧ zL (.code objectInit ⟨#[0xb1]⟩ 1 none) := ⟨wd_171, wd_111, wd_112⟩
theorem fp_X1_init_9 : zFp Y_X1_init 9 1 0 4 := ⟨(RX1, TX1, 9), tyX1, rfl, tyX1_ok, nmX1, rfl, Or.inr ⟨_, rfl⟩, Or.inr ⟨rfl, rfl, rfl, wd_222⟩⟩
theorem df_X3 : (∀ j, j < 2 → defaultValue (tyX3 j) = if zfe 3 j = 4 then .null else .int 0) ∧ ∀ j, j < 2 → zfe 3 j = 0 ∨ zfe 3 j = 4 := ⟨fun j hj => by
    rcases (show j = 0 ∨ j = 1 by omega) with rfl | rfl <;> rfl,
  by decide⟩
theorem nw_X1_15 : zNw RX1 15 3 := ⟨(RX3, TX3, 2), tyX3, rfl, zu_X3, tyX3_ok, wd_172, wd_173, wd_83, df_X3.1, df_X3.2⟩
theorem fp_X1_init_18 : zFp Y_X1_init 18 1 1 4 := ⟨(RX1, TX1, 9), tyX1, rfl, tyX1_ok, nmX1, rfl, Or.inl ⟨_, rfl⟩, Or.inr ⟨rfl, rfl, rfl, wd_223⟩⟩
theorem fp_X1_init_22 : zFp Y_X1_init 22 1 2 4 := ⟨(RX1, TX1, 9), tyX1, rfl, tyX1_ok, nmX1, rfl, Or.inl ⟨_, rfl⟩, Or.inr ⟨rfl, rfl, rfl, wd_226⟩⟩
theorem fp_X1_init_25 : zFp Y_X1_init 25 1 3 4 := ⟨(RX1, TX1, 9), tyX1, rfl, tyX1_ok, nmX1, rfl, Or.inr ⟨_, rfl⟩, Or.inr ⟨rfl, rfl, rfl, wd_229⟩⟩
theorem fp_X1_init_30 : zFp Y_X1_init 30 1 4 4 := ⟨(RX1, TX1, 9), tyX1, rfl, tyX1_ok, nmX1, rfl, Or.inr ⟨_, rfl⟩, Or.inr ⟨rfl, rfl, rfl, wd_230⟩⟩
theorem fp_X1_init_37 : zFp Y_X1_init 37 1 5 4 := ⟨(RX1, TX1, 9), tyX1, rfl, tyX1_ok, nmX1, rfl, Or.inl ⟨_, rfl⟩, Or.inr ⟨rfl, rfl, rfl, wd_231⟩⟩
theorem fp_X1_init_41 : zFp Y_X1_init 41 1 6 4 := ⟨(RX1, TX1, 9), tyX1, rfl, tyX1_ok, nmX1, rfl, Or.inl ⟨_, rfl⟩, Or.inr ⟨rfl, rfl, rfl, wd_232⟩⟩
theorem fp_X1_init_44 : zFp Y_X1_init 44 1 7 4 := ⟨(RX1, TX1, 9), tyX1, rfl, tyX1_ok, nmX1, rfl, Or.inr ⟨_, rfl⟩, Or.inr ⟨rfl, rfl, rfl, wd_234⟩⟩
theorem k0_X3_init : zk0 Y_X3_init 0 := ⟨wd_176, wd_83, ⟨by decide, by decide, by decide +kernel⟩, rfl⟩
theorem kl_X1_17 : zkL RX1 17 Y_X3_init := Or.inr ⟨"PathTrust", wd_174⟩
theorem kI_X3_init : (Y_X3_init).1.name = "<init>" ∧ zL (.instanceMethod (Y_X3_init).1) ∧ (Y_X3_init).2.2.2.1 = none := ⟨rfl, wd_175, rfl⟩
theorem fd_X3_15 : zFd RX3 15 3 1 := ⟨(RX3, TX3, 2), rfl, by decide, zu_X3, Or.inl wd_179⟩
theorem fp_X3_copyFrom_15 : zFp Y_X3_copyFrom 15 3 1 0 := ⟨(RX3, TX3, 2), tyX3, rfl, tyX3_ok, nmX3, rfl, rfl, Or.inl rfl⟩
theorem mq_X3_19 : zL (.methodLink RX3 19 Lib.Math.min.name) ∧ zL (.static Lib.Math.min.name) ∧ zL (.initialized "java/lang/Math") ∧ zL (.code Lib.Math.min.name Lib.Math.min.code 2 (some .int)) := ⟨wd_936, wd_412, wd_93, wd_413⟩
theorem ac_X3_25 : zL (.methodLink RX3 25 arraycopyName) ∧ zL (.native arraycopyName) ∧ zL (.static arraycopyName) ∧ zL (.initialized "java/lang/System") := ⟨wd_937, wd_416, wd_415, wd_94⟩
theorem fd_X5_15 : zFd RX5 15 5 1 := ⟨(RX5, TX5, 2), rfl, by decide, zu_X5, Or.inl wd_196⟩
theorem mq_X5_39 : zL (.methodLink RX5 39 Lib.Math.min.name) ∧ zL (.static Lib.Math.min.name) ∧ zL (.initialized "java/lang/Math") ∧ zL (.code Lib.Math.min.name Lib.Math.min.code 2 (some .int)) := ⟨wd_916, wd_412, wd_93, wd_413⟩
theorem fp_X5_copyFrom_15 : zFp Y_X5_copyFrom 15 5 1 0 := ⟨(RX5, TX5, 2), tyX5, rfl, tyX5_ok, nmX5, rfl, rfl, Or.inl rfl⟩
theorem ac_X5_47 : zL (.methodLink RX5 47 arraycopyName) ∧ zL (.native arraycopyName) ∧ zL (.static arraycopyName) ∧ zL (.initialized "java/lang/System") := ⟨wd_872, wd_416, wd_415, wd_94⟩
theorem mq_X1_83 : zL (.methodLink RX1 83 Lib.Math.min.name) ∧ zL (.static Lib.Math.min.name) ∧ zL (.initialized "java/lang/Math") ∧ zL (.code Lib.Math.min.name Lib.Math.min.code 2 (some .int)) := ⟨wd_917, wd_412, wd_93, wd_413⟩
theorem ac_X1_89 : zL (.methodLink RX1 89 arraycopyName) ∧ zL (.native arraycopyName) ∧ zL (.static arraycopyName) ∧ zL (.initialized "java/lang/System") := ⟨wd_938, wd_416, wd_415, wd_94⟩
theorem fp_X1_become_72 : zFp Y_X1_become 72 1 8 0 := ⟨(RX1, TX1, 9), tyX1, rfl, tyX1_ok, nmX1, rfl, rfl, Or.inl rfl⟩
theorem k0_X5_copyFrom : zk0 Y_X5_copyFrom 1 := ⟨wd_942, wd_84, ⟨by decide, by decide, by decide +kernel⟩, rfl⟩
theorem kl_X1_95 : zkL RX1 95 Y_X5_copyFrom := Or.inr ⟨"PathTrust", wd_939⟩
theorem kV_X5_copyFrom : zkV Y_X5_copyFrom := ⟨wd_941, wd_45⟩
theorem k0_X3_copyFrom : zk0 Y_X3_copyFrom 1 := ⟨wd_935, wd_83, ⟨by decide, by decide, by decide +kernel⟩, rfl⟩
theorem kl_X1_79 : zkL RX1 79 Y_X3_copyFrom := Or.inr ⟨"PathTrust", wd_932⟩
theorem kV_X3_copyFrom : zkV Y_X3_copyFrom := ⟨wd_934, wd_44⟩
theorem k0_X1_rule : zk0 Y_X1_rule 1 := ⟨wd_905, wd_82, ⟨by decide, by decide, by decide +kernel⟩, rfl⟩
theorem kl_X1_75 : zkL RX1 75 Y_X1_rule := Or.inl wd_902
theorem kV_X1_rule : zkV Y_X1_rule := ⟨wd_904, wd_38⟩
theorem k0_X1_trustIn : zk0 Y_X1_trustIn 2 := ⟨wd_843, wd_82, ⟨by decide, by decide, by decide +kernel⟩, rfl⟩
theorem kl_X1_98 : zkL RX1 98 Y_X1_trustIn := Or.inl wd_840
theorem kV_X1_trustIn : zkV Y_X1_trustIn := ⟨wd_842, wd_24⟩
theorem k0_X1_isLinked : zk0 Y_X1_isLinked 2 := ⟨wd_839, wd_82, ⟨by decide, by decide, by decide +kernel⟩, rfl⟩
theorem kl_X1_101 : zkL RX1 101 Y_X1_isLinked := Or.inl wd_897
theorem kV_X1_isLinked : zkV Y_X1_isLinked := ⟨wd_838, wd_23⟩
theorem k0_X1_accountPlace : zk0 Y_X1_accountPlace 2 := ⟨wd_891, wd_82, ⟨by decide, by decide, by decide +kernel⟩, rfl⟩
theorem kl_X1_108 : zkL RX1 108 Y_X1_accountPlace := Or.inl wd_889
theorem k0_X5_get : zk0 Y_X5_get 2 := ⟨wd_863, wd_84, ⟨by decide, by decide, by decide +kernel⟩, rfl⟩
theorem kl_X1_111 : zkL RX1 111 Y_X5_get := Or.inr ⟨"PathTrust", wd_892⟩
theorem kV_X5_get : zkV Y_X5_get := ⟨wd_862, wd_29⟩
theorem k0_X1_driftOf : zk0 Y_X1_driftOf 2 := ⟨wd_901, wd_82, ⟨by decide, by decide, by decide +kernel⟩, rfl⟩
theorem kl_X1_114 : zkL RX1 114 Y_X1_driftOf := Or.inl wd_898
theorem kV_X1_driftOf : zkV Y_X1_driftOf := ⟨wd_900, wd_37⟩
theorem kl_X5_19 : zkL RX5 19 Y_X5_get := Or.inl wd_860
theorem fp_X5_closeGap_15 : zFp Y_X5_closeGap 15 5 1 0 := ⟨(RX5, TX5, 2), tyX5, rfl, tyX5_ok, nmX5, rfl, rfl, Or.inl rfl⟩
theorem k0_X5_closeGap : zk0 Y_X5_closeGap 2 := ⟨wd_871, wd_84, ⟨by decide, by decide, by decide +kernel⟩, rfl⟩
theorem kl_X5_35 : zkL RX5 35 Y_X5_closeGap := Or.inl wd_868
theorem kV_X5_closeGap : zkV Y_X5_closeGap := ⟨wd_870, wd_31⟩
theorem fp_X5_addRow_15 : zFp Y_X5_addRow 15 5 1 0 := ⟨(RX5, TX5, 2), tyX5, rfl, tyX5_ok, nmX5, rfl, rfl, Or.inl rfl⟩
theorem k0_X5_isFull : zk0 Y_X5_isFull 0 := ⟨wd_880, wd_84, ⟨by decide, by decide, by decide +kernel⟩, rfl⟩
theorem kl_X5_23 : zkL RX5 23 Y_X5_isFull := Or.inl wd_877
theorem kV_X5_isFull : zkV Y_X5_isFull := ⟨wd_879, wd_33⟩
theorem mq_X5_44 : zL (.methodLink RX5 44 Lib.Math.max.name) ∧ zL (.static Lib.Math.max.name) ∧ zL (.initialized "java/lang/Math") ∧ zL (.code Lib.Math.max.name Lib.Math.max.code 2 (some .int)) := ⟨wd_910, wd_395, wd_93, wd_396⟩
theorem k0_X1_tally : zk0 Y_X1_tally 2 := ⟨wd_888, wd_82, ⟨by decide, by decide, by decide +kernel⟩, rfl⟩
theorem kl_X1_132 : zkL RX1 132 Y_X1_tally := Or.inl wd_885
theorem kV_X1_tally : zkV Y_X1_tally := ⟨wd_887, wd_35⟩
theorem mq_X1_142 : zL (.methodLink RX1 142 Lib.Math.max.name) ∧ zL (.static Lib.Math.max.name) ∧ zL (.initialized "java/lang/Math") ∧ zL (.code Lib.Math.max.name Lib.Math.max.code 2 (some .int)) := ⟨wd_911, wd_395, wd_93, wd_396⟩
theorem k0_X1_putTrust : zk0 Y_X1_putTrust 3 := ⟨wd_847, wd_82, ⟨by decide, by decide, by decide +kernel⟩, rfl⟩
theorem kl_X1_148 : zkL RX1 148 Y_X1_putTrust := Or.inl wd_918
theorem kV_X1_putTrust : zkV Y_X1_putTrust := ⟨wd_846, wd_25⟩
theorem k0_X5_highMoved : zk0 Y_X5_highMoved 2 := ⟨wd_915, wd_84, ⟨by decide, by decide, by decide +kernel⟩, rfl⟩
theorem kl_X1_145 : zkL RX1 145 Y_X5_highMoved := Or.inr ⟨"PathTrust", wd_912⟩
theorem kV_X5_highMoved : zkV Y_X5_highMoved := ⟨wd_914, wd_40⟩
theorem k0_X5_lowMoved : zk0 Y_X5_lowMoved 2 := ⟨wd_909, wd_84, ⟨by decide, by decide, by decide +kernel⟩, rfl⟩
theorem kl_X1_139 : zkL RX1 139 Y_X5_lowMoved := Or.inr ⟨"PathTrust", wd_906⟩
theorem kV_X5_lowMoved : zkV Y_X5_lowMoved := ⟨wd_908, wd_39⟩
theorem k0_X1_judge : zk0 Y_X1_judge 3 := ⟨wd_896, wd_82, ⟨by decide, by decide, by decide +kernel⟩, rfl⟩
theorem kl_X1_135 : zkL RX1 135 Y_X1_judge := Or.inl wd_893
theorem kV_X1_judge : zkV Y_X1_judge := ⟨wd_895, wd_36⟩
theorem k0_X5_put : zk0 Y_X5_put 3 := ⟨wd_884, wd_84, ⟨by decide, by decide, by decide +kernel⟩, rfl⟩
theorem kl_X1_128 : zkL RX1 128 Y_X5_put := Or.inr ⟨"PathTrust", wd_881⟩
theorem kV_X5_put : zkV Y_X5_put := ⟨wd_883, wd_34⟩
theorem k0_X5_addRow : zk0 Y_X5_addRow 0 := ⟨wd_876, wd_84, ⟨by decide, by decide, by decide +kernel⟩, rfl⟩
theorem kl_X1_124 : zkL RX1 124 Y_X5_addRow := Or.inr ⟨"PathTrust", wd_873⟩
theorem kV_X5_addRow : zkV Y_X5_addRow := ⟨wd_875, wd_32⟩
theorem k0_X5_removeRow : zk0 Y_X5_removeRow 1 := ⟨wd_867, wd_84, ⟨by decide, by decide, by decide +kernel⟩, rfl⟩
theorem kl_X1_121 : zkL RX1 121 Y_X5_removeRow := Or.inr ⟨"PathTrust", wd_864⟩
theorem kV_X5_removeRow : zkV Y_X5_removeRow := ⟨wd_866, wd_30⟩
theorem k0_X5_rowOf : zk0 Y_X5_rowOf 2 := ⟨wd_859, wd_84, ⟨by decide, by decide, by decide +kernel⟩, rfl⟩
theorem kl_X1_118 : zkL RX1 118 Y_X5_rowOf := Or.inr ⟨"PathTrust", wd_856⟩
theorem kV_X5_rowOf : zkV Y_X5_rowOf := ⟨wd_858, wd_28⟩
theorem kl_X5_31 : zkL RX5 31 Y_X5_put := Or.inl wd_1015
theorem kl_X5_27 : zkL RX5 27 Y_X5_addRow := Or.inl wd_1014
theorem k0_X5_addCopy : zk0 Y_X5_addCopy 2 := ⟨wd_1013, wd_84, ⟨by decide, by decide, by decide +kernel⟩, rfl⟩
theorem kl_X1_159 : zkL RX1 159 Y_X5_addCopy := Or.inr ⟨"PathTrust", wd_1010⟩
theorem kV_X5_addCopy : zkV Y_X5_addCopy := ⟨wd_1012, wd_51⟩
theorem kl_X1_155 : zkL RX1 155 Y_X5_isFull := Or.inr ⟨"PathTrust", wd_1009⟩
theorem k0_X1_sendReport : zk0 Y_X1_sendReport 3 := ⟨wd_1008, wd_82, ⟨by decide, by decide, by decide +kernel⟩, rfl⟩
theorem kl_X1_151 : zkL RX1 151 Y_X1_sendReport := Or.inl wd_1005
theorem kV_X1_sendReport : zkV Y_X1_sendReport := ⟨wd_1007, wd_50⟩
theorem k0_X1_isTooOld : zk0 Y_X1_isTooOld 2 := ⟨wd_1039, wd_82, ⟨by decide, by decide, by decide +kernel⟩, rfl⟩
theorem kl_X1_162 : zkL RX1 162 Y_X1_isTooOld := Or.inl wd_1036
theorem kV_X1_isTooOld : zkV Y_X1_isTooOld := ⟨wd_1038, wd_55⟩
theorem k0_X1_reasonToRefuse : zk0 Y_X1_reasonToRefuse 1 := ⟨wd_1035, wd_82, ⟨by decide, by decide, by decide +kernel⟩, rfl⟩
theorem kl_X1_173 : zkL RX1 173 Y_X1_reasonToRefuse := Or.inl wd_1032
theorem kV_X1_reasonToRefuse : zkV Y_X1_reasonToRefuse := ⟨wd_1034, wd_54⟩
theorem k0_X5_removeFirst : zk0 Y_X5_removeFirst 1 := ⟨wd_1043, wd_84, ⟨by decide, by decide, by decide +kernel⟩, rfl⟩
theorem kl_X1_170 : zkL RX1 170 Y_X5_removeFirst := Or.inr ⟨"PathTrust", wd_1040⟩
theorem kV_X5_removeFirst : zkV Y_X5_removeFirst := ⟨wd_1042, wd_56⟩
theorem k0_X1_receive : zk0 Y_X1_receive 1 := ⟨wd_1031, wd_82, ⟨by decide, by decide, by decide +kernel⟩, rfl⟩
theorem kl_X1_166 : zkL RX1 166 Y_X1_receive := Or.inl wd_1028
theorem kV_X1_receive : zkV Y_X1_receive := ⟨wd_1030, wd_53⟩
theorem k0_X1_deliverFirst : zk0 Y_X1_deliverFirst 1 := ⟨wd_1027, wd_82, ⟨by decide, by decide, by decide +kernel⟩, rfl⟩
theorem kl_X1_179 : zkL RX1 179 Y_X1_deliverFirst := Or.inl wd_1079
theorem kV_X1_deliverFirst : zkV Y_X1_deliverFirst := ⟨wd_1026, wd_52⟩
theorem k0_X1_sendReports : zk0 Y_X1_sendReports 2 := ⟨wd_1004, wd_82, ⟨by decide, by decide, by decide +kernel⟩, rfl⟩
theorem kl_X1_176 : zkL RX1 176 Y_X1_sendReports := Or.inl wd_1078
theorem kV_X1_sendReports : zkV Y_X1_sendReports := ⟨wd_1003, wd_49⟩
theorem fp_X1_letPass_72 : zFp Y_X1_letPass 72 1 8 0 := ⟨(RX1, TX1, 9), tyX1, rfl, tyX1_ok, nmX1, rfl, rfl, Or.inl rfl⟩
theorem oi_X2_3 : zL (.methodLink RX2 3 objectInit) ∧ zL (.instanceMethod objectInit) ∧ zL (.code objectInit ⟨#[0xb1]⟩ 1 none) := ⟨wd_294, wd_111, wd_112⟩
theorem zu_X2 : ∀ w ∈ u_ws RX2 TX2 2, zL w := List.forall_mem_cons.mpr ⟨wd_299, List.forall_mem_cons.mpr ⟨wd_301, fun _ h => nomatch h⟩⟩
theorem fd_X2_11 : zFd RX2 11 2 0 := ⟨(RX2, TX2, 2), rfl, by decide, zu_X2, Or.inl wd_297⟩
theorem fp_X2_init_11 : zFp Y_X2_init 11 2 0 4 := ⟨(RX2, TX2, 2), tyX2, rfl, tyX2_ok, nmX2, rfl, Or.inr ⟨_, rfl⟩, Or.inr ⟨rfl, rfl, rfl, wd_297⟩⟩
theorem fd_X2_17 : zFd RX2 17 2 1 := ⟨(RX2, TX2, 2), rfl, by decide, zu_X2, Or.inl wd_298⟩
theorem fp_X2_dropOldest_17 : zFp Y_X2_dropOldest 17 2 1 0 := ⟨(RX2, TX2, 2), tyX2, rfl, tyX2_ok, nmX2, rfl, rfl, Or.inl rfl⟩
theorem fp_X2_push_17 : zFp Y_X2_push 17 2 1 0 := ⟨(RX2, TX2, 2), tyX2, rfl, tyX2_ok, nmX2, rfl, rfl, Or.inl rfl⟩
theorem k0_X1_become : zk0 Y_X1_become 1 := ⟨wd_931, wd_82, ⟨by decide, by decide, by decide +kernel⟩, rfl⟩
theorem kl_X2_25 : zkL RX2 25 Y_X1_become := Or.inr ⟨"PathTrust", wd_928⟩
theorem kV_X1_become : zkV Y_X1_become := ⟨wd_930, wd_43⟩
theorem df_X1 : (∀ j, j < 9 → defaultValue (tyX1 j) = if zfe 1 j = 4 then .null else .int 0) ∧ ∀ j, j < 9 → zfe 1 j = 0 ∨ zfe 1 j = 4 := ⟨fun j hj => by
    rcases (show j = 0 ∨ j = 1 ∨ j = 2 ∨ j = 3 ∨ j = 4 ∨ j = 5 ∨ j = 6 ∨ j = 7 ∨ j = 8 by omega) with rfl | rfl | rfl | rfl | rfl | rfl | rfl | rfl | rfl <;> rfl,
  by decide⟩
theorem nw_X2_9 : zNw RX2 9 1 := ⟨(RX1, TX1, 9), tyX1, rfl, zu_X1, tyX1_ok, wd_295, wd_167, wd_82, df_X1.1, df_X1.2⟩
theorem k0_X1_init : zk0 Y_X1_init 0 := ⟨wd_170, wd_82, ⟨by decide, by decide, by decide +kernel⟩, rfl⟩
theorem kl_X2_24 : zkL RX2 24 Y_X1_init := Or.inr ⟨"PathTrust", wd_927⟩
theorem kI_X1_init : (Y_X1_init).1.name = "<init>" ∧ zL (.instanceMethod (Y_X1_init).1) ∧ (Y_X1_init).2.2.2.1 = none := ⟨rfl, wd_169, rfl⟩
theorem k0_X2_dropOldest : zk0 Y_X2_dropOldest 0 := ⟨wd_926, wd_87, ⟨by decide, by decide, by decide +kernel⟩, rfl⟩
theorem kl_X2_21 : zkL RX2 21 Y_X2_dropOldest := Or.inl wd_923
theorem kV_X2_dropOldest : zkV Y_X2_dropOldest := ⟨wd_925, wd_42⟩
theorem fp_X3_add_15 : zFp Y_X3_add 15 3 1 0 := ⟨(RX3, TX3, 2), tyX3, rfl, tyX3_ok, nmX3, rfl, rfl, Or.inl rfl⟩
theorem oi_X4_3 : zL (.methodLink RX4 3 objectInit) ∧ zL (.instanceMethod objectInit) ∧ zL (.code objectInit ⟨#[0xb1]⟩ 1 none) := ⟨wd_261, wd_111, wd_112⟩
theorem zu_X4 : ∀ w ∈ u_ws RX4 TX4 8, zL w := List.forall_mem_cons.mpr ⟨wd_272, List.forall_mem_cons.mpr ⟨wd_274, List.forall_mem_cons.mpr ⟨wd_276, List.forall_mem_cons.mpr ⟨wd_278, List.forall_mem_cons.mpr ⟨wd_280, List.forall_mem_cons.mpr ⟨wd_282, List.forall_mem_cons.mpr ⟨wd_284, List.forall_mem_cons.mpr ⟨wd_286, fun _ h => nomatch h⟩⟩⟩⟩⟩⟩⟩⟩
theorem fd_X4_9 : zFd RX4 9 4 7 := ⟨(RX4, TX4, 8), rfl, by decide, zu_X4, Or.inl wd_270⟩
theorem fp_X4_init_9 : zFp Y_X4_init 9 4 7 0 := ⟨(RX4, TX4, 8), tyX4, rfl, tyX4_ok, nmX4, rfl, rfl, Or.inl rfl⟩
theorem fd_X4_15 : zFd RX4 15 4 0 := ⟨(RX4, TX4, 8), rfl, by decide, zu_X4, Or.inl wd_262⟩
theorem fp_X4_init_15 : zFp Y_X4_init 15 4 0 4 := ⟨(RX4, TX4, 8), tyX4, rfl, tyX4_ok, nmX4, rfl, Or.inl ⟨_, rfl⟩, Or.inr ⟨rfl, rfl, rfl, wd_262⟩⟩
theorem fd_X4_19 : zFd RX4 19 4 1 := ⟨(RX4, TX4, 8), rfl, by decide, zu_X4, Or.inl wd_263⟩
theorem fp_X4_init_19 : zFp Y_X4_init 19 4 1 4 := ⟨(RX4, TX4, 8), tyX4, rfl, tyX4_ok, nmX4, rfl, Or.inl ⟨_, rfl⟩, Or.inr ⟨rfl, rfl, rfl, wd_263⟩⟩
theorem fd_X4_41 : zFd RX4 41 4 2 := ⟨(RX4, TX4, 8), rfl, by decide, zu_X4, Or.inl wd_264⟩
theorem fd_X4_23 : zFd RX4 23 4 4 := ⟨(RX4, TX4, 8), rfl, by decide, zu_X4, Or.inl wd_266⟩
theorem fd_X4_176 : zFd RX4 176 0 1 := ⟨(RX0, TX0, 2), rfl, by decide, zu_X0, Or.inr ⟨"PathTrust", wd_122⟩⟩
theorem fp_X4_next_23 : zFp Y_X4_next 23 4 4 0 := ⟨(RX4, TX4, 8), tyX4, rfl, tyX4_ok, nmX4, rfl, rfl, Or.inl rfl⟩
theorem k0_X4_kindOf : zk0 Y_X4_kindOf 1 := ⟨wd_759, wd_86, ⟨by decide, by decide, by decide +kernel⟩, rfl⟩
theorem kl_X4_178 : zkL RX4 178 Y_X4_kindOf := Or.inl wd_757
theorem kl_X4_158 : zkL RX4 158 Y_X0_at := Or.inr ⟨"PathTrust", wd_753⟩
theorem fd_X4_125 : zFd RX4 125 4 3 := ⟨(RX4, TX4, 8), rfl, by decide, zu_X4, Or.inl wd_265⟩
theorem fp_X4_next_41 : zFp Y_X4_next 41 4 2 0 := ⟨(RX4, TX4, 8), tyX4, rfl, tyX4_ok, nmX4, rfl, rfl, Or.inl rfl⟩
theorem fp_X4_next_125 : zFp Y_X4_next 125 4 3 0 := ⟨(RX4, TX4, 8), tyX4, rfl, tyX4_ok, nmX4, rfl, rfl, Or.inl rfl⟩
theorem sl_X4_166 : zsl RX4 166 := wd_773
theorem sh_X4_172 : zsh RX4 172 := wd_774
theorem fd_X4_26 : zFd RX4 26 4 6 := ⟨(RX4, TX4, 8), rfl, by decide, zu_X4, Or.inl wd_268⟩
theorem fp_X4_fail_26 : zFp Y_X4_fail 26 4 6 0 := ⟨(RX4, TX4, 8), tyX4, rfl, tyX4_ok, nmX4, rfl, rfl, Or.inl rfl⟩
theorem fp_X4_fail_9 : zFp Y_X4_fail 9 4 7 0 := ⟨(RX4, TX4, 8), tyX4, rfl, tyX4_ok, nmX4, rfl, rfl, Or.inl rfl⟩
theorem k0_X4_next : zk0 Y_X4_next 0 := ⟨wd_752, wd_86, ⟨by decide, by decide, by decide +kernel⟩, rfl⟩
theorem kl_X4_34 : zkL RX4 34 Y_X4_next := Or.inl wd_749
theorem kV_X4_next : zkV Y_X4_next := ⟨wd_751, wd_7⟩
theorem k0_X4_fail : zk0 Y_X4_fail 1 := ⟨wd_778, wd_86, ⟨by decide, by decide, by decide +kernel⟩, rfl⟩
theorem kl_X4_73 : zkL RX4 73 Y_X4_fail := Or.inl wd_775
theorem kV_X4_fail : zkV Y_X4_fail := ⟨wd_777, wd_12⟩
theorem k0_X4_isWord : zk0 Y_X4_isWord 1 := ⟨wd_772, wd_86, ⟨by decide, by decide, by decide +kernel⟩, rfl⟩
theorem kl_X4_46 : zkL RX4 46 Y_X4_isWord := Or.inl wd_769
theorem kV_X4_isWord : zkV Y_X4_isWord := ⟨wd_771, wd_11⟩
theorem fd_X4_110 : zFd RX4 110 4 5 := ⟨(RX4, TX4, 8), rfl, by decide, zu_X4, Or.inl wd_267⟩
theorem fp_X4_readNumber_110 : zFp Y_X4_readNumber 110 4 5 0 := ⟨(RX4, TX4, 8), tyX4, rfl, tyX4_ok, nmX4, rfl, rfl, Or.inl rfl⟩
theorem mq_X4_161 : zL (.methodLink RX4 161 Lib.Math.min.name) ∧ zL (.static Lib.Math.min.name) ∧ zL (.initialized "java/lang/Math") ∧ zL (.code Lib.Math.min.name Lib.Math.min.code 2 (some .int)) := ⟨wd_792, wd_412, wd_93, wd_413⟩
theorem kl_X4_113 : zkL RX4 113 Y_X1_putRule := Or.inr ⟨"PathTrust", wd_793⟩
theorem k0_X4_readNumber : zk0 Y_X4_readNumber 2 := ⟨wd_791, wd_86, ⟨by decide, by decide, by decide +kernel⟩, rfl⟩
theorem kl_X4_106 : zkL RX4 106 Y_X4_readNumber := Or.inl wd_788
theorem kV_X4_readNumber : zkV Y_X4_readNumber := ⟨wd_790, wd_14⟩
theorem k0_X4_readWord : zk0 Y_X4_readWord 1 := ⟨wd_768, wd_86, ⟨by decide, by decide, by decide +kernel⟩, rfl⟩
theorem kl_X4_79 : zkL RX4 79 Y_X4_readWord := Or.inl wd_765
theorem kV_X4_readWord : zkV Y_X4_readWord := ⟨wd_767, wd_10⟩
theorem k0_X4_readSemicolon : zk0 Y_X4_readSemicolon 0 := ⟨wd_801, wd_86, ⟨by decide, by decide, by decide +kernel⟩, rfl⟩
theorem kl_X4_96 : zkL RX4 96 Y_X4_readSemicolon := Or.inl wd_798
theorem kV_X4_readSemicolon : zkV Y_X4_readSemicolon := ⟨wd_800, wd_15⟩
theorem k0_X4_readRule : zk0 Y_X4_readRule 2 := ⟨wd_783, wd_86, ⟨by decide, by decide, by decide +kernel⟩, rfl⟩
theorem kl_X4_84 : zkL RX4 84 Y_X4_readRule := Or.inl wd_780
theorem kV_X4_readRule : zkV Y_X4_readRule := ⟨wd_782, wd_13⟩
theorem fd_X4_117 : zFd RX4 117 3 1 := ⟨(RX3, TX3, 2), rfl, by decide, zu_X3, Or.inr ⟨"PathTrust", wd_182⟩⟩
theorem k0_X3_add : zk0 Y_X3_add 1 := ⟨wd_827, wd_83, ⟨by decide, by decide, by decide +kernel⟩, rfl⟩
theorem kl_X4_138 : zkL RX4 138 Y_X3_add := Or.inr ⟨"PathTrust", wd_824⟩
theorem kV_X3_add : zkV Y_X3_add := ⟨wd_826, wd_20⟩
theorem k0_X3_find : zk0 Y_X3_find 1 := ⟨wd_823, wd_83, ⟨by decide, by decide, by decide +kernel⟩, rfl⟩
theorem kl_X4_134 : zkL RX4 134 Y_X3_find := Or.inr ⟨"PathTrust", wd_820⟩
theorem kV_X3_find : zkV Y_X3_find := ⟨wd_822, wd_19⟩
theorem k0_X0_nameCode : zk0 Y_X0_nameCode 2 := ⟨wd_818, wd_80, ⟨by decide, by decide, by decide +kernel⟩, rfl⟩
theorem kl_X4_128 : zkL RX4 128 Y_X0_nameCode := Or.inr ⟨"PathTrust", wd_815⟩
theorem kV_X0_nameCode : zkV Y_X0_nameCode := ⟨wd_817, wd_18⟩
theorem k0_X4_isName : zk0 Y_X4_isName 0 := ⟨wd_810, wd_86, ⟨by decide, by decide, by decide +kernel⟩, rfl⟩
theorem kl_X4_122 : zkL RX4 122 Y_X4_isName := Or.inl wd_807
theorem kV_X4_isName : zkV Y_X4_isName := ⟨wd_809, wd_17⟩
theorem fp_X4_isNameOf_110 : zFp Y_X4_isNameOf 110 4 5 0 := ⟨(RX4, TX4, 8), tyX4, rfl, tyX4_ok, nmX4, rfl, rfl, Or.inl rfl⟩
theorem kl_X4_150 : zkL RX4 150 Y_X1_putTrust := Or.inr ⟨"PathTrust", wd_844⟩
theorem fd_X4_50 : zFd RX4 50 1 1 := ⟨(RX1, TX1, 9), rfl, by decide, zu_X1, Or.inr ⟨"PathTrust", wd_224⟩⟩
theorem kl_X4_145 : zkL RX4 145 Y_X1_isLinked := Or.inr ⟨"PathTrust", wd_836⟩
theorem k0_X4_isNameOf : zk0 Y_X4_isNameOf 1 := ⟨wd_835, wd_86, ⟨by decide, by decide, by decide +kernel⟩, rfl⟩
theorem kl_X4_142 : zkL RX4 142 Y_X4_isNameOf := Or.inl wd_832
theorem kV_X4_isNameOf : zkV Y_X4_isNameOf := ⟨wd_834, wd_22⟩
theorem fd_X4_60 : zFd RX4 60 1 2 := ⟨(RX1, TX1, 9), rfl, by decide, zu_X1, Or.inr ⟨"PathTrust", wd_227⟩⟩
theorem k0_X1_makeProbe : zk0 Y_X1_makeProbe 4 := ⟨wd_855, wd_82, ⟨by decide, by decide, by decide +kernel⟩, rfl⟩
theorem kl_X4_154 : zkL RX4 154 Y_X1_makeProbe := Or.inr ⟨"PathTrust", wd_852⟩
theorem kV_X1_makeProbe : zkV Y_X1_makeProbe := ⟨wd_854, wd_27⟩
theorem k0_X4_readProbe : zk0 Y_X4_readProbe 0 := ⟨wd_851, wd_86, ⟨by decide, by decide, by decide +kernel⟩, rfl⟩
theorem kl_X4_70 : zkL RX4 70 Y_X4_readProbe := Or.inl wd_848
theorem kV_X4_readProbe : zkV Y_X4_readProbe := ⟨wd_850, wd_26⟩
theorem k0_X4_readLink : zk0 Y_X4_readLink 0 := ⟨wd_831, wd_86, ⟨by decide, by decide, by decide +kernel⟩, rfl⟩
theorem kl_X4_65 : zkL RX4 65 Y_X4_readLink := Or.inl wd_828
theorem kV_X4_readLink : zkV Y_X4_readLink := ⟨wd_830, wd_21⟩
theorem k0_X4_readNewName : zk0 Y_X4_readNewName 1 := ⟨wd_806, wd_86, ⟨by decide, by decide, by decide +kernel⟩, rfl⟩
theorem kl_X4_54 : zkL RX4 54 Y_X4_readNewName := Or.inl wd_803
theorem kV_X4_readNewName : zkV Y_X4_readNewName := ⟨wd_805, wd_16⟩
theorem fp_X4_parse_23 : zFp Y_X4_parse 23 4 4 0 := ⟨(RX4, TX4, 8), tyX4, rfl, tyX4_ok, nmX4, rfl, rfl, Or.inl rfl⟩
theorem fp_X4_parse_26 : zFp Y_X4_parse 26 4 6 0 := ⟨(RX4, TX4, 8), tyX4, rfl, tyX4_ok, nmX4, rfl, rfl, Or.inl rfl⟩
theorem fp_X4_parse_9 : zFp Y_X4_parse 9 4 7 0 := ⟨(RX4, TX4, 8), tyX4, rfl, tyX4_ok, nmX4, rfl, rfl, Or.inl rfl⟩
theorem k0_X4_readRules : zk0 Y_X4_readRules 0 := ⟨wd_763, wd_86, ⟨by decide, by decide, by decide +kernel⟩, rfl⟩
theorem kl_X4_37 : zkL RX4 37 Y_X4_readRules := Or.inl wd_760
theorem kV_X4_readRules : zkV Y_X4_readRules := ⟨wd_762, wd_9⟩
theorem kl_X4_29 : zkL RX4 29 Y_X1_reset := Or.inr ⟨"PathTrust", wd_748⟩
theorem kl_X5_57 : zkL RX5 57 Y_X5_removeRow := Or.inl wd_1128
theorem k0_X7_contains : zk0 Y_X7_contains 2 := ⟨wd_1127, wd_79, ⟨by decide, by decide, by decide +kernel⟩, rfl⟩
theorem kl_X5_53 : zkL RX5 53 Y_X7_contains := Or.inr ⟨"PathTrust", wd_1125⟩
theorem oi_X6_3 : zL (.methodLink RX6 3 objectInit) ∧ zL (.instanceMethod objectInit) ∧ zL (.code objectInit ⟨#[0xb1]⟩ 1 none) := ⟨wd_134, wd_111, wd_112⟩
theorem zu_X6 : ∀ w ∈ u_ws RX6 TX6 9, zL w := List.forall_mem_cons.mpr ⟨wd_146, List.forall_mem_cons.mpr ⟨wd_148, List.forall_mem_cons.mpr ⟨wd_150, List.forall_mem_cons.mpr ⟨wd_152, List.forall_mem_cons.mpr ⟨wd_154, List.forall_mem_cons.mpr ⟨wd_156, List.forall_mem_cons.mpr ⟨wd_158, List.forall_mem_cons.mpr ⟨wd_160, List.forall_mem_cons.mpr ⟨wd_162, fun _ h => nomatch h⟩⟩⟩⟩⟩⟩⟩⟩⟩
theorem fd_X6_9 : zFd RX6 9 6 0 := ⟨(RX6, TX6, 9), rfl, by decide, zu_X6, Or.inl wd_135⟩
theorem fp_X6_init_9 : zFp Y_X6_init 9 6 0 4 := ⟨(RX6, TX6, 9), tyX6, rfl, tyX6_ok, nmX6, rfl, Or.inr ⟨_, rfl⟩, Or.inr ⟨rfl, rfl, rfl, wd_135⟩⟩
theorem fd_X6_15 : zFd RX6 15 6 1 := ⟨(RX6, TX6, 9), rfl, by decide, zu_X6, Or.inl wd_136⟩
theorem fp_X6_init_15 : zFp Y_X6_init 15 6 1 4 := ⟨(RX6, TX6, 9), tyX6, rfl, tyX6_ok, nmX6, rfl, Or.inr ⟨_, rfl⟩, Or.inr ⟨rfl, rfl, rfl, wd_136⟩⟩
theorem fd_X6_18 : zFd RX6 18 6 2 := ⟨(RX6, TX6, 9), rfl, by decide, zu_X6, Or.inl wd_137⟩
theorem fp_X6_init_18 : zFp Y_X6_init 18 6 2 4 := ⟨(RX6, TX6, 9), tyX6, rfl, tyX6_ok, nmX6, rfl, Or.inr ⟨_, rfl⟩, Or.inr ⟨rfl, rfl, rfl, wd_137⟩⟩
theorem fd_X6_21 : zFd RX6 21 6 3 := ⟨(RX6, TX6, 9), rfl, by decide, zu_X6, Or.inl wd_138⟩
theorem fp_X6_init_21 : zFp Y_X6_init 21 6 3 4 := ⟨(RX6, TX6, 9), tyX6, rfl, tyX6_ok, nmX6, rfl, Or.inr ⟨_, rfl⟩, Or.inr ⟨rfl, rfl, rfl, wd_138⟩⟩
theorem fd_X6_24 : zFd RX6 24 6 4 := ⟨(RX6, TX6, 9), rfl, by decide, zu_X6, Or.inl wd_139⟩
theorem fp_X6_init_24 : zFp Y_X6_init 24 6 4 4 := ⟨(RX6, TX6, 9), tyX6, rfl, tyX6_ok, nmX6, rfl, Or.inr ⟨_, rfl⟩, Or.inr ⟨rfl, rfl, rfl, wd_139⟩⟩
theorem fd_X6_27 : zFd RX6 27 6 5 := ⟨(RX6, TX6, 9), rfl, by decide, zu_X6, Or.inl wd_140⟩
theorem fp_X6_init_27 : zFp Y_X6_init 27 6 5 4 := ⟨(RX6, TX6, 9), tyX6, rfl, tyX6_ok, nmX6, rfl, Or.inr ⟨_, rfl⟩, Or.inr ⟨rfl, rfl, rfl, wd_140⟩⟩
theorem kl_X6_78 : zkL RX6 78 Y_X5_highMoved := Or.inr ⟨"PathTrust", wd_1106⟩
theorem kl_X6_75 : zkL RX6 75 Y_X5_lowMoved := Or.inr ⟨"PathTrust", wd_1105⟩
theorem kl_X6_49 : zkL RX6 49 Y_X5_get := Or.inr ⟨"PathTrust", wd_1094⟩
theorem kl_X6_71 : zkL RX6 71 Y_X1_rule := Or.inr ⟨"PathTrust", wd_1104⟩
theorem k0_X1_beliefSpread : zk0 Y_X1_beliefSpread 2 := ⟨wd_1103, wd_82, ⟨by decide, by decide, by decide +kernel⟩, rfl⟩
theorem kl_X6_68 : zkL RX6 68 Y_X1_beliefSpread := Or.inr ⟨"PathTrust", wd_1100⟩
theorem kV_X1_beliefSpread : zkV Y_X1_beliefSpread := ⟨wd_1102, wd_62⟩
theorem kl_X6_65 : zkL RX6 65 Y_X1_trustIn := Or.inr ⟨"PathTrust", wd_1099⟩
theorem kl_X6_40 : zkL RX6 40 Y_X1_listOf := Or.inr ⟨"PathTrust", wd_1093⟩
theorem fd_X6_30 : zFd RX6 30 6 6 := ⟨(RX6, TX6, 9), rfl, by decide, zu_X6, Or.inl wd_141⟩
theorem fd_X6_34 : zFd RX6 34 6 7 := ⟨(RX6, TX6, 9), rfl, by decide, zu_X6, Or.inl wd_142⟩
theorem mq_X6_81 : zL (.methodLink RX6 81 Lib.Math.max.name) ∧ zL (.static Lib.Math.max.name) ∧ zL (.initialized "java/lang/Math") ∧ zL (.code Lib.Math.max.name Lib.Math.max.code 2 (some .int)) := ⟨wd_1115, wd_395, wd_93, wd_396⟩
theorem fd_X6_37 : zFd RX6 37 6 8 := ⟨(RX6, TX6, 9), rfl, by decide, zu_X6, Or.inl wd_144⟩
theorem mq_X6_86 : zL (.methodLink RX6 86 Lib.Math.min.name) ∧ zL (.static Lib.Math.min.name) ∧ zL (.initialized "java/lang/Math") ∧ zL (.code Lib.Math.min.name Lib.Math.min.code 2 (some .int)) := ⟨wd_1116, wd_412, wd_93, wd_413⟩
theorem fp_X6_take_34 : zFp Y_X6_take 34 6 7 0 := ⟨(RX6, TX6, 9), tyX6, rfl, tyX6_ok, nmX6, rfl, rfl, Or.inl rfl⟩
theorem fp_X6_take_37 : zFp Y_X6_take 37 6 8 0 := ⟨(RX6, TX6, 9), tyX6, rfl, tyX6_ok, nmX6, rfl, rfl, Or.inl rfl⟩
theorem k0_X6_take : zk0 Y_X6_take 1 := ⟨wd_1114, wd_81, ⟨by decide, by decide, by decide +kernel⟩, rfl⟩
theorem kl_X6_61 : zkL RX6 61 Y_X6_take := Or.inl wd_1111
theorem kV_X6_take : zkV Y_X6_take := ⟨wd_1113, wd_64⟩
theorem k0_X6_nextToTake : zk0 Y_X6_nextToTake 0 := ⟨wd_1110, wd_81, ⟨by decide, by decide, by decide +kernel⟩, rfl⟩
theorem kl_X6_57 : zkL RX6 57 Y_X6_nextToTake := Or.inl wd_1107
theorem kV_X6_nextToTake : zkV Y_X6_nextToTake := ⟨wd_1109, wd_63⟩
theorem fd_X6_46 : zFd RX6 46 5 1 := ⟨(RX5, TX5, 2), rfl, by decide, zu_X5, Or.inr ⟨"PathTrust", wd_197⟩⟩
theorem fp_X6_form_30 : zFp Y_X6_form 30 6 6 0 := ⟨(RX6, TX6, 9), tyX6, rfl, tyX6_ok, nmX6, rfl, rfl, Or.inl rfl⟩
theorem k0_X6_note : zk0 Y_X6_note 4 := ⟨wd_1098, wd_81, ⟨by decide, by decide, by decide +kernel⟩, rfl⟩
theorem kl_X6_53 : zkL RX6 53 Y_X6_note := Or.inl wd_1095
theorem kV_X6_note : zkV Y_X6_note := ⟨wd_1097, wd_61⟩
theorem fp_X6_form_34 : zFp Y_X6_form 34 6 7 0 := ⟨(RX6, TX6, 9), tyX6, rfl, tyX6_ok, nmX6, rfl, rfl, Or.inl rfl⟩
theorem fp_X6_form_37 : zFp Y_X6_form 37 6 8 0 := ⟨(RX6, TX6, 9), tyX6, rfl, tyX6_ok, nmX6, rfl, rfl, Or.inl rfl⟩
theorem k0_J6_bitCount_0f7a4 : zk0 Y_J6_bitCount_0f7a4 1 := ⟨wd_1217, wd_98, ⟨by decide, by decide, by decide +kernel⟩, rfl⟩
theorem kl_X6_92 : zkL RX6 92 Y_J6_bitCount_0f7a4 := Or.inl wd_1233
theorem k0_X6_originsAround : zk0 Y_X6_originsAround 1 := ⟨wd_1232, wd_81, ⟨by decide, by decide, by decide +kernel⟩, rfl⟩
theorem kl_X6_89 : zkL RX6 89 Y_X6_originsAround := Or.inl wd_1229
theorem kV_X6_originsAround : zkV Y_X6_originsAround := ⟨wd_1231, wd_72⟩
theorem kl_X6_97 : zkL RX6 97 Y_X7_contains := Or.inr ⟨"PathTrust", wd_1242⟩
theorem oi_X7_1 : zL (.methodLink RX7 1 objectInit) ∧ zL (.instanceMethod objectInit) ∧ zL (.code objectInit ⟨#[0xb1]⟩ 1 none) := ⟨wd_110, wd_111, wd_112⟩
theorem df_X0 : (∀ j, j < 2 → defaultValue (tyX0 j) = if zfe 0 j = 4 then .null else .int 0) ∧ ∀ j, j < 2 → zfe 0 j = 0 ∨ zfe 0 j = 4 := ⟨fun j hj => by
    rcases (show j = 0 ∨ j = 1 by omega) with rfl | rfl <;> rfl,
  by decide⟩
theorem nw_X7_7 : zNw RX7 7 0 := ⟨(RX0, TX0, 2), tyX0, rfl, zu_X0, tyX0_ok, wd_113, wd_114, wd_80, df_X0.1, df_X0.2⟩
theorem zu_X7 : ∀ w ∈ u_ws RX7 TX7 8, zL w := List.forall_mem_cons.mpr ⟨wd_312, List.forall_mem_cons.mpr ⟨wd_314, List.forall_mem_cons.mpr ⟨wd_316, List.forall_mem_cons.mpr ⟨wd_318, List.forall_mem_cons.mpr ⟨wd_320, List.forall_mem_cons.mpr ⟨wd_322, List.forall_mem_cons.mpr ⟨wd_324, List.forall_mem_cons.mpr ⟨wd_326, fun _ h => nomatch h⟩⟩⟩⟩⟩⟩⟩⟩
theorem fd_X7_14 : zFd RX7 14 7 0 := ⟨(RX7, TX7, 8), rfl, by decide, zu_X7, Or.inl wd_304⟩
theorem fp_X7_init_14 : zFp Y_X7_init 14 7 0 4 := ⟨(RX7, TX7, 8), tyX7, rfl, tyX7_ok, nmX7, rfl, Or.inl ⟨_, rfl⟩, Or.inr ⟨rfl, rfl, rfl, wd_304⟩⟩
theorem fd_X7_18 : zFd RX7 18 7 1 := ⟨(RX7, TX7, 8), rfl, by decide, zu_X7, Or.inl wd_305⟩
theorem fp_X7_init_18 : zFp Y_X7_init 18 7 1 4 := ⟨(RX7, TX7, 8), tyX7, rfl, tyX7_ok, nmX7, rfl, Or.inl ⟨_, rfl⟩, Or.inr ⟨rfl, rfl, rfl, wd_305⟩⟩
theorem df_X6 : (∀ j, j < 9 → defaultValue (tyX6 j) = if zfe 6 j = 4 then .null else .int 0) ∧ ∀ j, j < 9 → zfe 6 j = 0 ∨ zfe 6 j = 4 := ⟨fun j hj => by
    rcases (show j = 0 ∨ j = 1 ∨ j = 2 ∨ j = 3 ∨ j = 4 ∨ j = 5 ∨ j = 6 ∨ j = 7 ∨ j = 8 by omega) with rfl | rfl | rfl | rfl | rfl | rfl | rfl | rfl | rfl <;> rfl,
  by decide⟩
theorem nw_X7_21 : zNw RX7 21 6 := ⟨(RX6, TX6, 9), tyX6, rfl, zu_X6, tyX6_ok, wd_129, wd_130, wd_81, df_X6.1, df_X6.2⟩
theorem fd_X7_24 : zFd RX7 24 7 2 := ⟨(RX7, TX7, 8), rfl, by decide, zu_X7, Or.inl wd_306⟩
theorem fp_X7_init_24 : zFp Y_X7_init 24 7 2 4 := ⟨(RX7, TX7, 8), tyX7, rfl, tyX7_ok, nmX7, rfl, Or.inl ⟨_, rfl⟩, Or.inr ⟨rfl, rfl, rfl, wd_306⟩⟩
theorem nw_X7_28 : zNw RX7 28 1 := ⟨(RX1, TX1, 9), tyX1, rfl, zu_X1, tyX1_ok, wd_166, wd_167, wd_82, df_X1.1, df_X1.2⟩
theorem fd_X7_31 : zFd RX7 31 7 3 := ⟨(RX7, TX7, 8), rfl, by decide, zu_X7, Or.inl wd_307⟩
theorem fp_X7_init_31 : zFp Y_X7_init 31 7 3 4 := ⟨(RX7, TX7, 8), tyX7, rfl, tyX7_ok, nmX7, rfl, Or.inl ⟨_, rfl⟩, Or.inr ⟨rfl, rfl, rfl, wd_307⟩⟩
theorem fd_X7_35 : zFd RX7 35 7 4 := ⟨(RX7, TX7, 8), rfl, by decide, zu_X7, Or.inl wd_308⟩
theorem fp_X7_init_35 : zFp Y_X7_init 35 7 4 4 := ⟨(RX7, TX7, 8), tyX7, rfl, tyX7_ok, nmX7, rfl, Or.inl ⟨_, rfl⟩, Or.inr ⟨rfl, rfl, rfl, wd_308⟩⟩
theorem df_X4 : (∀ j, j < 8 → defaultValue (tyX4 j) = if zfe 4 j = 4 then .null else .int 0) ∧ ∀ j, j < 8 → zfe 4 j = 0 ∨ zfe 4 j = 4 := ⟨fun j hj => by
    rcases (show j = 0 ∨ j = 1 ∨ j = 2 ∨ j = 3 ∨ j = 4 ∨ j = 5 ∨ j = 6 ∨ j = 7 by omega) with rfl | rfl | rfl | rfl | rfl | rfl | rfl | rfl <;> rfl,
  by decide⟩
theorem nw_X7_38 : zNw RX7 38 4 := ⟨(RX4, TX4, 8), tyX4, rfl, zu_X4, tyX4_ok, wd_256, wd_257, wd_86, df_X4.1, df_X4.2⟩
theorem fd_X7_43 : zFd RX7 43 7 5 := ⟨(RX7, TX7, 8), rfl, by decide, zu_X7, Or.inl wd_309⟩
theorem fp_X7_init_43 : zFp Y_X7_init 43 7 5 4 := ⟨(RX7, TX7, 8), tyX7, rfl, tyX7_ok, nmX7, rfl, Or.inl ⟨_, rfl⟩, Or.inr ⟨rfl, rfl, rfl, wd_309⟩⟩
theorem df_X2 : (∀ j, j < 2 → defaultValue (tyX2 j) = if zfe 2 j = 4 then .null else .int 0) ∧ ∀ j, j < 2 → zfe 2 j = 0 ∨ zfe 2 j = 4 := ⟨fun j hj => by
    rcases (show j = 0 ∨ j = 1 by omega) with rfl | rfl <;> rfl,
  by decide⟩
theorem nw_X7_47 : zNw RX7 47 2 := ⟨(RX2, TX2, 2), tyX2, rfl, zu_X2, tyX2_ok, wd_289, wd_290, wd_87, df_X2.1, df_X2.2⟩
theorem fd_X7_50 : zFd RX7 50 7 6 := ⟨(RX7, TX7, 8), rfl, by decide, zu_X7, Or.inl wd_310⟩
theorem fp_X7_init_50 : zFp Y_X7_init 50 7 6 4 := ⟨(RX7, TX7, 8), tyX7, rfl, tyX7_ok, nmX7, rfl, Or.inl ⟨_, rfl⟩, Or.inr ⟨rfl, rfl, rfl, wd_310⟩⟩
theorem fd_X7_54 : zFd RX7 54 7 7 := ⟨(RX7, TX7, 8), rfl, by decide, zu_X7, Or.inl wd_311⟩
theorem fp_X7_init_54 : zFp Y_X7_init 54 7 7 4 := ⟨(RX7, TX7, 8), tyX7, rfl, tyX7_ok, nmX7, rfl, Or.inr ⟨_, rfl⟩, Or.inr ⟨rfl, rfl, rfl, wd_311⟩⟩
theorem k0_X2_init : zk0 Y_X2_init 0 := ⟨wd_293, wd_87, ⟨by decide, by decide, by decide +kernel⟩, rfl⟩
theorem kl_X7_49 : zkL RX7 49 Y_X2_init := Or.inr ⟨"PathTrust", wd_291⟩
theorem kI_X2_init : (Y_X2_init).1.name = "<init>" ∧ zL (.instanceMethod (Y_X2_init).1) ∧ (Y_X2_init).2.2.2.1 = none := ⟨rfl, wd_292, rfl⟩
theorem k0_X4_init : zk0 Y_X4_init 2 := ⟨wd_260, wd_86, ⟨by decide, by decide, by decide +kernel⟩, rfl⟩
theorem kl_X7_40 : zkL RX7 40 Y_X4_init := Or.inr ⟨"PathTrust", wd_258⟩
theorem kI_X4_init : (Y_X4_init).1.name = "<init>" ∧ zL (.instanceMethod (Y_X4_init).1) ∧ (Y_X4_init).2.2.2.1 = none := ⟨rfl, wd_259, rfl⟩
theorem kl_X7_30 : zkL RX7 30 Y_X1_init := Or.inr ⟨"PathTrust", wd_168⟩
theorem k0_X6_init : zk0 Y_X6_init 0 := ⟨wd_133, wd_81, ⟨by decide, by decide, by decide +kernel⟩, rfl⟩
theorem kl_X7_23 : zkL RX7 23 Y_X6_init := Or.inr ⟨"PathTrust", wd_131⟩
theorem kI_X6_init : (Y_X6_init).1.name = "<init>" ∧ zL (.instanceMethod (Y_X6_init).1) ∧ (Y_X6_init).2.2.2.1 = none := ⟨rfl, wd_132, rfl⟩
theorem k0_X0_init : zk0 Y_X0_init 1 := ⟨wd_117, wd_80, ⟨by decide, by decide, by decide +kernel⟩, rfl⟩
theorem kl_X7_11 : zkL RX7 11 Y_X0_init := Or.inr ⟨"PathTrust", wd_115⟩
theorem kI_X0_init : (Y_X0_init).1.name = "<init>" ∧ zL (.instanceMethod (Y_X0_init).1) ∧ (Y_X0_init).2.2.2.1 = none := ⟨rfl, wd_116, rfl⟩
theorem fd_X7_58 : zFd RX7 58 0 1 := ⟨(RX0, TX0, 2), rfl, by decide, zu_X0, Or.inr ⟨"PathTrust", wd_120⟩⟩
theorem k0_X0_addFour : zk0 Y_X0_addFour 1 := ⟨wd_711, wd_80, ⟨by decide, by decide, by decide +kernel⟩, rfl⟩
theorem kl_X7_69 : zkL RX7 69 Y_X0_addFour := Or.inr ⟨"PathTrust", wd_708⟩
theorem kV_X0_addFour : zkV Y_X0_addFour := ⟨wd_710, wd_4⟩
theorem fp_X7_truncate_58 : zFp Y_X7_truncate 58 0 1 0 := ⟨(RX0, TX0, 2), tyX0, rfl, tyX0_ok, nmX0, rfl, rfl, Or.inl rfl⟩
theorem k0_X7_checkRange : zk0 Y_X7_checkRange 3 := ⟨wd_723, wd_79, ⟨by decide, by decide, by decide +kernel⟩, rfl⟩
theorem kl_X7_72 : zkL RX7 72 Y_X7_checkRange := Or.inl wd_721
theorem fp_X7_load_58 : zFp Y_X7_load 58 0 1 0 := ⟨(RX0, TX0, 2), tyX0, rfl, tyX0_ok, nmX0, rfl, rfl, Or.inl rfl⟩
theorem fd_X7_87 : zFd RX7 87 1 1 := ⟨(RX1, TX1, 9), rfl, by decide, zu_X1, Or.inr ⟨"PathTrust", wd_225⟩⟩
theorem fd_X7_91 : zFd RX7 91 3 1 := ⟨(RX3, TX3, 2), rfl, by decide, zu_X3, Or.inr ⟨"PathTrust", wd_181⟩⟩
theorem kl_X7_84 : zkL RX7 84 Y_X1_become := Or.inr ⟨"PathTrust", wd_943⟩
theorem k0_X2_push : zk0 Y_X2_push 1 := ⟨wd_922, wd_87, ⟨by decide, by decide, by decide +kernel⟩, rfl⟩
theorem kl_X7_80 : zkL RX7 80 Y_X2_push := Or.inr ⟨"PathTrust", wd_919⟩
theorem kV_X2_push : zkV Y_X2_push := ⟨wd_921, wd_41⟩
theorem k0_X4_parse : zk0 Y_X4_parse 0 := ⟨wd_747, wd_86, ⟨by decide, by decide, by decide +kernel⟩, rfl⟩
theorem kl_X7_76 : zkL RX7 76 Y_X4_parse := Or.inr ⟨"PathTrust", wd_744⟩
theorem kV_X4_parse : zkV Y_X4_parse := ⟨wd_746, wd_6⟩
theorem fd_X7_96 : zFd RX7 96 4 6 := ⟨(RX4, TX4, 8), rfl, by decide, zu_X4, Or.inr ⟨"PathTrust", wd_269⟩⟩
theorem fd_X7_99 : zFd RX7 99 4 7 := ⟨(RX4, TX4, 8), rfl, by decide, zu_X4, Or.inr ⟨"PathTrust", wd_271⟩⟩
theorem kl_X7_123 : zkL RX7 123 Y_X1_rule := Or.inr ⟨"PathTrust", wd_960⟩
theorem fd_X7_106 : zFd RX7 106 1 2 := ⟨(RX1, TX1, 9), rfl, by decide, zu_X1, Or.inr ⟨"PathTrust", wd_228⟩⟩
theorem fd_X7_109 : zFd RX7 109 1 8 := ⟨(RX1, TX1, 9), rfl, by decide, zu_X1, Or.inr ⟨"PathTrust", wd_236⟩⟩
theorem fd_X7_112 : zFd RX7 112 1 6 := ⟨(RX1, TX1, 9), rfl, by decide, zu_X1, Or.inr ⟨"PathTrust", wd_233⟩⟩
theorem fd_X7_116 : zFd RX7 116 5 1 := ⟨(RX5, TX5, 2), rfl, by decide, zu_X5, Or.inr ⟨"PathTrust", wd_199⟩⟩
theorem k0_X1_linkCount : zk0 Y_X1_linkCount 0 := ⟨wd_959, wd_82, ⟨by decide, by decide, by decide +kernel⟩, rfl⟩
theorem kl_X7_119 : zkL RX7 119 Y_X1_linkCount := Or.inr ⟨"PathTrust", wd_956⟩
theorem kV_X1_linkCount : zkV Y_X1_linkCount := ⟨wd_958, wd_46⟩
theorem kl_X7_130 : zkL RX7 130 Y_X1_trustIn := Or.inr ⟨"PathTrust", wd_1160⟩
theorem k0_X7_checkAgent : zk0 Y_X7_checkAgent 1 := ⟨wd_971, wd_79, ⟨by decide, by decide, by decide +kernel⟩, rfl⟩
theorem kl_X7_127 : zkL RX7 127 Y_X7_checkAgent := Or.inl wd_968
theorem kV_X7_checkAgent : zkV Y_X7_checkAgent := ⟨wd_970, wd_47⟩
theorem kl_X7_144 : zkL RX7 144 Y_X1_listOf := Or.inr ⟨"PathTrust", wd_1084⟩
theorem kl_X7_152 : zkL RX7 152 Y_X5_get := Or.inr ⟨"PathTrust", wd_1152⟩
theorem k0_X7_checkReport : zk0 Y_X7_checkReport 2 := ⟨wd_1150, wd_79, ⟨by decide, by decide, by decide +kernel⟩, rfl⟩
theorem kl_X7_148 : zkL RX7 148 Y_X7_checkReport := Or.inl wd_1147
theorem kV_X7_checkReport : zkV Y_X7_checkReport := ⟨wd_1149, wd_67⟩
theorem k0_X6_statusOf : zk0 Y_X6_statusOf 1 := ⟨wd_1195, wd_81, ⟨by decide, by decide, by decide +kernel⟩, rfl⟩
theorem kl_X7_340 : zkL RX7 340 Y_X6_statusOf := Or.inr ⟨"PathTrust", wd_1192⟩
theorem kV_X6_statusOf : zkV Y_X6_statusOf := ⟨wd_1194, wd_69⟩
theorem k0_X6_form : zk0 Y_X6_form 4 := ⟨wd_1092, wd_81, ⟨by decide, by decide, by decide +kernel⟩, rfl⟩
theorem kl_X7_181 : zkL RX7 181 Y_X6_form := Or.inr ⟨"PathTrust", wd_1089⟩
theorem kV_X6_form : zkV Y_X6_form := ⟨wd_1091, wd_60⟩
theorem k0_X7_statusIn : zk0 Y_X7_statusIn 2 := ⟨wd_1191, wd_79, ⟨by decide, by decide, by decide +kernel⟩, rfl⟩
theorem kl_X7_155 : zkL RX7 155 Y_X7_statusIn := Or.inl wd_1188
theorem kV_X7_statusIn : zkV Y_X7_statusIn := ⟨wd_1190, wd_68⟩
theorem kl_X7_164 : zkL RX7 164 Y_X5_highMoved := Or.inr ⟨"PathTrust", wd_1180⟩
theorem kl_X7_161 : zkL RX7 161 Y_X5_lowMoved := Or.inr ⟨"PathTrust", wd_1179⟩
theorem kl_X7_158 : zkL RX7 158 Y_X1_beliefSpread := Or.inr ⟨"PathTrust", wd_1178⟩
theorem kl_X7_134 : zkL RX7 134 Y_X1_isLinked := Or.inr ⟨"PathTrust", wd_1057⟩
theorem kl_X7_170 : zkL RX7 170 Y_X5_rowOf := Or.inr ⟨"PathTrust", wd_1254⟩
theorem k0_X7_checkWay : zk0 Y_X7_checkWay 1 := ⟨wd_991, wd_79, ⟨by decide, by decide, by decide +kernel⟩, rfl⟩
theorem kl_X7_167 : zkL RX7 167 Y_X7_checkWay := Or.inl wd_988
theorem kV_X7_checkWay : zkV Y_X7_checkWay := ⟨wd_990, wd_48⟩
theorem fd_X7_297 : zFd RX7 297 6 8 := ⟨(RX6, TX6, 9), rfl, by decide, zu_X6, Or.inr ⟨"PathTrust", wd_145⟩⟩
theorem fd_X7_294 : zFd RX7 294 6 7 := ⟨(RX6, TX6, 9), rfl, by decide, zu_X6, Or.inr ⟨"PathTrust", wd_143⟩⟩
theorem k0_X7_believed : zk0 Y_X7_believed 4 := ⟨wd_1203, wd_79, ⟨by decide, by decide, by decide +kernel⟩, rfl⟩
theorem kl_X7_173 : zkL RX7 173 Y_X7_believed := Or.inl wd_1200
theorem kV_X7_believed : zkV Y_X7_believed := ⟨wd_1202, wd_70⟩
theorem k0_X6_originsWith : zk0 Y_X6_originsWith 1 := ⟨wd_1120, wd_81, ⟨by decide, by decide, by decide +kernel⟩, rfl⟩
theorem kl_X7_343 : zkL RX7 343 Y_X6_originsWith := Or.inr ⟨"PathTrust", wd_1117⟩
theorem kV_X6_originsWith : zkV Y_X6_originsWith := ⟨wd_1119, wd_65⟩
theorem k0_X7_originsOf : zk0 Y_X7_originsOf 3 := ⟨wd_1088, wd_79, ⟨by decide, by decide, by decide +kernel⟩, rfl⟩
theorem kl_X7_177 : zkL RX7 177 Y_X7_originsOf := Or.inl wd_1085
theorem kV_X7_originsOf : zkV Y_X7_originsOf := ⟨wd_1087, wd_59⟩
theorem k0_X6_largestSet : zk0 Y_X6_largestSet 0 := ⟨wd_1228, wd_81, ⟨by decide, by decide, by decide +kernel⟩, rfl⟩
theorem kl_X7_185 : zkL RX7 185 Y_X6_largestSet := Or.inr ⟨"PathTrust", wd_1225⟩
theorem kV_X6_largestSet : zkV Y_X6_largestSet := ⟨wd_1227, wd_71⟩
theorem k0_X6_highOf : zk0 Y_X6_highOf 1 := ⟨wd_1246, wd_81, ⟨by decide, by decide, by decide +kernel⟩, rfl⟩
theorem kl_X7_191 : zkL RX7 191 Y_X6_highOf := Or.inr ⟨"PathTrust", wd_1243⟩
theorem kV_X6_highOf : zkV Y_X6_highOf := ⟨wd_1245, wd_74⟩
theorem k0_X6_lowOf : zk0 Y_X6_lowOf 1 := ⟨wd_1241, wd_81, ⟨by decide, by decide, by decide +kernel⟩, rfl⟩
theorem kl_X7_188 : zkL RX7 188 Y_X6_lowOf := Or.inr ⟨"PathTrust", wd_1238⟩
theorem kV_X6_lowOf : zkV Y_X6_lowOf := ⟨wd_1240, wd_73⟩
theorem k0_X7_bestWay : zk0 Y_X7_bestWay 3 := ⟨wd_1262, wd_79, ⟨by decide, by decide, by decide +kernel⟩, rfl⟩
theorem kl_X7_194 : zkL RX7 194 Y_X7_bestWay := Or.inl wd_1259
theorem kV_X7_bestWay : zkV Y_X7_bestWay := ⟨wd_1261, wd_75⟩
theorem k0_X7_rivalsOf : zk0 Y_X7_rivalsOf 2 := ⟨wd_1278, wd_79, ⟨by decide, by decide, by decide +kernel⟩, rfl⟩
theorem kl_X7_198 : zkL RX7 198 Y_X7_rivalsOf := Or.inl wd_1275
theorem kV_X7_rivalsOf : zkV Y_X7_rivalsOf := ⟨wd_1277, wd_77⟩
theorem kl_X7_138 : zkL RX7 138 Y_X7_contains := Or.inl wd_1283
theorem k0_X7_widthOf : zk0 Y_X7_widthOf 4 := ⟨wd_1270, wd_79, ⟨by decide, by decide, by decide +kernel⟩, rfl⟩
theorem kl_X7_201 : zkL RX7 201 Y_X7_widthOf := Or.inl wd_1267
theorem kV_X7_widthOf : zkV Y_X7_widthOf := ⟨wd_1269, wd_76⟩
theorem mq_X7_204 : zL (.methodLink RX7 204 Lib.Math.max.name) ∧ zL (.static Lib.Math.max.name) ∧ zL (.initialized "java/lang/Math") ∧ zL (.code Lib.Math.max.name Lib.Math.max.code 2 (some .int)) := ⟨wd_1299, wd_395, wd_93, wd_396⟩
theorem mq_X7_209 : zL (.methodLink RX7 209 Lib.Math.min.name) ∧ zL (.static Lib.Math.min.name) ∧ zL (.initialized "java/lang/Math") ∧ zL (.code Lib.Math.min.name Lib.Math.min.code 2 (some .int)) := ⟨wd_1300, wd_412, wd_93, wd_413⟩
theorem kl_X7_212 : zkL RX7 212 Y_X1_driftOf := Or.inr ⟨"PathTrust", wd_1298⟩
theorem kl_X7_230 : zkL RX7 230 Y_X1_makeProbe := Or.inr ⟨"PathTrust", wd_996⟩
theorem k0_X7_checkBounds : zk0 Y_X7_checkBounds 2 := ⟨wd_995, wd_79, ⟨by decide, by decide, by decide +kernel⟩, rfl⟩
theorem kl_X7_227 : zkL RX7 227 Y_X7_checkBounds := Or.inl wd_993
theorem kl_X7_246 : zkL RX7 246 Y_X1_sendReports := Or.inr ⟨"PathTrust", wd_1001⟩
theorem kl_X7_243 : zkL RX7 243 Y_X1_deliverFirst := Or.inr ⟨"PathTrust", wd_1024⟩
theorem k0_X1_makeRounds : zk0 Y_X1_makeRounds 1 := ⟨wd_1077, wd_82, ⟨by decide, by decide, by decide +kernel⟩, rfl⟩
theorem kl_X7_234 : zkL RX7 234 Y_X1_makeRounds := Or.inr ⟨"PathTrust", wd_1074⟩
theorem kV_X1_makeRounds : zkV Y_X1_makeRounds := ⟨wd_1076, wd_58⟩
theorem k0_X1_letPass : zk0 Y_X1_letPass 1 := ⟨wd_1051, wd_82, ⟨by decide, by decide, by decide +kernel⟩, rfl⟩
theorem kl_X7_237 : zkL RX7 237 Y_X1_letPass := Or.inr ⟨"PathTrust", wd_1048⟩
theorem kV_X1_letPass : zkV Y_X1_letPass := ⟨wd_1050, wd_57⟩
theorem kl_X7_259 : zkL RX7 259 Y_X1_putTrust := Or.inr ⟨"PathTrust", wd_1058⟩
theorem kl_X7_269 : zkL RX7 269 Y_X1_putRule := Or.inr ⟨"PathTrust", wd_1069⟩
theorem k0_X7_isRuleValue : zk0 Y_X7_isRuleValue 2 := ⟨wd_1065, wd_79, ⟨by decide, by decide, by decide +kernel⟩, rfl⟩
theorem kl_X7_264 : zkL RX7 264 Y_X7_isRuleValue := Or.inl wd_1063
theorem k0_X5_removeAll : zk0 Y_X5_removeAll 2 := ⟨wd_1124, wd_84, ⟨by decide, by decide, by decide +kernel⟩, rfl⟩
theorem kl_X7_272 : zkL RX7 272 Y_X5_removeAll := Or.inr ⟨"PathTrust", wd_1121⟩
theorem kV_X5_removeAll : zkV Y_X5_removeAll := ⟨wd_1123, wd_66⟩
theorem zu_J0 : ∀ w ∈ u_ws RJ0 TJ0 4, zL w := List.forall_mem_cons.mpr ⟨wd_606, List.forall_mem_cons.mpr ⟨wd_608, List.forall_mem_cons.mpr ⟨wd_610, List.forall_mem_cons.mpr ⟨wd_612, fun _ h => nomatch h⟩⟩⟩⟩
theorem fd_J0_15 : zFd RJ0 15 9 1 := ⟨(RJ0, TJ0, 4), rfl, by decide, zu_J0, Or.inl wd_605⟩
theorem fd_J0_9 : zFd RJ0 9 9 0 := ⟨(RJ0, TJ0, 4), rfl, by decide, zu_J0, Or.inl wd_604⟩
theorem k0_J0_coder_7d493 : zk0 Y_J0_coder_7d493 0 := ⟨wd_353, wd_90, ⟨by decide, by decide, by decide +kernel⟩, rfl⟩
theorem kl_J0_335 : zkL RJ0 335 Y_J0_coder_7d493 := Or.inl wd_350
theorem kV_J0_coder_7d493 : zkV Y_J0_coder_7d493 := ⟨wd_351, wd_352⟩
theorem ck_J1_9 : zkck RJ1 9 := ⟨wd_633, wd_543⟩
theorem k0_J1_charAt_3b067 : zk0 Y_J1_charAt_3b067 2 := ⟨wd_632, wd_96, ⟨by decide, by decide, by decide +kernel⟩, rfl⟩
theorem kl_J0_495 : zkL RJ0 495 Y_J1_charAt_3b067 := Or.inl wd_630
theorem k0_J0_isLatin1_aae02 : zk0 Y_J0_isLatin1_aae02 0 := ⟨wd_629, wd_90, ⟨by decide, by decide, by decide +kernel⟩, rfl⟩
theorem kl_J0_492 : zkL RJ0 492 Y_J0_isLatin1_aae02 := Or.inl wd_626
theorem kV_J0_isLatin1_aae02 : zkV Y_J0_isLatin1_aae02 := ⟨wd_627, wd_628⟩
theorem k0_J0_charAt_5068e : zk0 Y_J0_charAt_5068e 1 := ⟨wd_625, wd_90, ⟨by decide, by decide, by decide +kernel⟩, rfl⟩
theorem kl_L_14 : zkL RL 14 Y_J0_charAt_5068e := Or.inl wd_622
theorem kV_J0_charAt_5068e : zkV Y_J0_charAt_5068e := ⟨wd_623, wd_624⟩
theorem k0_J0_length_8abf5 : zk0 Y_J0_length_8abf5 0 := ⟨wd_349, wd_90, ⟨by decide, by decide, by decide +kernel⟩, rfl⟩
theorem kl_L_8 : zkL RL 8 Y_J0_length_8abf5 := Or.inl wd_618
theorem kV_J0_length_8abf5 : zkV Y_J0_length_8abf5 := ⟨wd_347, wd_348⟩
theorem k0_X7_append : zk0 Y_X7_append 5 := ⟨wd_640, wd_79, ⟨by decide, by decide, by decide +kernel⟩, rfl⟩
theorem kl_L_24 : zkL RL 24 Y_X7_append := Or.inl wd_637
theorem kV_X7_append : zkV Y_X7_append := ⟨wd_638, wd_639⟩
theorem k0_L_four : zk0 Y_L_four 2 := ⟨wd_621, wd_78, ⟨by decide, by decide, by decide +kernel⟩, rfl⟩
theorem kl_L_18 : zkL RL 18 Y_L_four := Or.inl wd_619
theorem mq_L_30 : zL (.methodLink RL 30 Lib.Math.min.name) ∧ zL (.static Lib.Math.min.name) ∧ zL (.initialized "java/lang/Math") ∧ zL (.code Lib.Math.min.name Lib.Math.min.code 2 (some .int)) := ⟨wd_716, wd_412, wd_93, wd_413⟩
theorem k0_X7_truncate : zk0 Y_X7_truncate 1 := ⟨wd_720, wd_79, ⟨by decide, by decide, by decide +kernel⟩, rfl⟩
theorem kl_L_36 : zkL RL 36 Y_X7_truncate := Or.inl wd_717
theorem kV_X7_truncate : zkV Y_X7_truncate := ⟨wd_718, wd_719⟩
theorem mq_J8_194 : zL (.methodLink RJ8 194 Lib.Math.max.name) ∧ zL (.static Lib.Math.max.name) ∧ zL (.initialized "java/lang/Math") ∧ zL (.code Lib.Math.max.name Lib.Math.max.code 2 (some .int)) := ⟨wd_394, wd_395, wd_93, wd_396⟩
theorem zu_J4 : ∀ w ∈ u_ws RJ4 TJ4 4, zL w := List.forall_mem_cons.mpr ⟨wd_486, List.forall_mem_cons.mpr ⟨wd_488, List.forall_mem_cons.mpr ⟨wd_490, List.forall_mem_cons.mpr ⟨wd_492, fun _ h => nomatch h⟩⟩⟩⟩
theorem fd_J5_15 : zFd RJ5 15 8 0 := ⟨(RJ4, TJ4, 4), rfl, by decide, zu_J4, Or.inl wd_482⟩
theorem fd_J5_22 : zFd RJ5 22 8 1 := ⟨(RJ4, TJ4, 4), rfl, by decide, zu_J4, Or.inl wd_483⟩
theorem k0_J8_newLength_cabcc : zk0 Y_J8_newLength_cabcc 3 := ⟨wd_393, wd_92, ⟨by decide, by decide, by decide +kernel⟩, rfl⟩
theorem kl_J5_114 : zkL RJ5 114 Y_J8_newLength_cabcc := Or.inl wd_391
theorem mq_J7_304 : zL (.methodLink RJ7 304 Lib.Math.min.name) ∧ zL (.static Lib.Math.min.name) ∧ zL (.initialized "java/lang/Math") ∧ zL (.code Lib.Math.min.name Lib.Math.min.code 2 (some .int)) := ⟨wd_411, wd_412, wd_93, wd_413⟩
theorem ac_J7_150 : zL (.methodLink RJ7 150 arraycopyName) ∧ zL (.native arraycopyName) ∧ zL (.static arraycopyName) ∧ zL (.initialized "java/lang/System") := ⟨wd_414, wd_416, wd_415, wd_94⟩
theorem fp_J5_ensureCapacityInternal_d00df_15 : zFp Y_J5_ensureCapacityInternal_d00df 15 8 0 4 := ⟨(RJ4, TJ4, 4), tyJ4, rfl, tyJ4_ok, nmJ4, rfl, Or.inr ⟨_, rfl⟩, Or.inl rfl⟩
theorem k0_J7_copyOf_9075b : zk0 Y_J7_copyOf_9075b 2 := ⟨wd_403, wd_85, ⟨by decide, by decide, by decide +kernel⟩, rfl⟩
theorem kl_J5_108 : zkL RJ5 108 Y_J7_copyOf_9075b := Or.inl wd_401
theorem k0_J5_newCapacity_0f7a4 : zk0 Y_J5_newCapacity_0f7a4 1 := ⟨wd_390, wd_88, ⟨by decide, by decide, by decide +kernel⟩, rfl⟩
theorem kl_J5_104 : zkL RJ5 104 Y_J5_newCapacity_0f7a4 := Or.inl wd_387
theorem kP_J5_newCapacity_0f7a4 : zL (.instanceMethod Y_J5_newCapacity_0f7a4.1) ∧ zL (.selects "java/lang/StringBuilder" Y_J5_newCapacity_0f7a4.1 Y_J5_newCapacity_0f7a4.1) := ⟨wd_389, wd_1317⟩
theorem sc_J5_40 : zsc RJ5 40 := wd_358
theorem sc_J0_335 : zsc RJ0 335 := wd_350
theorem ac_J0_212 : zL (.methodLink RJ0 212 arraycopyName) ∧ zL (.native arraycopyName) ∧ zL (.static arraycopyName) ∧ zL (.initialized "java/lang/System") := ⟨wd_480, wd_416, wd_415, wd_94⟩
theorem k0_J0_getBytes_840e7 : zk0 Y_J0_getBytes_840e7 3 := ⟨wd_479, wd_90, ⟨by decide, by decide, by decide +kernel⟩, rfl⟩
theorem kl_J5_399 : zkL RJ5 399 Y_J0_getBytes_840e7 := Or.inl wd_476
theorem kV_J0_getBytes_840e7 : zkV Y_J0_getBytes_840e7 := ⟨wd_477, wd_478⟩
theorem k0_J5_inflateIfNeededFor_a7421 : zk0 Y_J5_inflateIfNeededFor_a7421 1 := ⟨wd_456, wd_88, ⟨by decide, by decide, by decide +kernel⟩, rfl⟩
theorem kl_J5_397 : zkL RJ5 397 Y_J5_inflateIfNeededFor_a7421 := Or.inl wd_453
theorem kP_J5_inflateIfNeededFor_a7421 : zL (.instanceMethod Y_J5_inflateIfNeededFor_a7421.1) ∧ zL (.selects "java/lang/StringBuilder" Y_J5_inflateIfNeededFor_a7421.1 Y_J5_inflateIfNeededFor_a7421.1) := ⟨wd_455, wd_1319⟩
theorem sl_J5_32 : zsl RJ5 32 := wd_346
theorem fd_J5_79 : zFd RJ5 79 8 3 := ⟨(RJ4, TJ4, 4), rfl, by decide, zu_J4, Or.inl wd_485⟩
theorem fp_J5_append_cf1ce_79 : zFp Y_J5_append_cf1ce 79 8 3 0 := ⟨(RJ4, TJ4, 4), tyJ4, rfl, tyJ4_ok, nmJ4, rfl, rfl, Or.inl rfl⟩
theorem k0_J5_putStringAt_47b60 : zk0 Y_J5_putStringAt_47b60 2 := ⟨wd_452, wd_88, ⟨by decide, by decide, by decide +kernel⟩, rfl⟩
theorem kl_J5_208 : zkL RJ5 208 Y_J5_putStringAt_47b60 := Or.inl wd_449
theorem kP_J5_putStringAt_47b60 : zL (.instanceMethod Y_J5_putStringAt_47b60.1) ∧ zL (.selects "java/lang/StringBuilder" Y_J5_putStringAt_47b60.1 Y_J5_putStringAt_47b60.1) := ⟨wd_451, wd_1318⟩
theorem k0_J5_ensureCapacityInternal_d00df : zk0 Y_J5_ensureCapacityInternal_d00df 1 := ⟨wd_386, wd_88, ⟨by decide, by decide, by decide +kernel⟩, rfl⟩
theorem kl_J5_100 : zkL RJ5 100 Y_J5_ensureCapacityInternal_d00df := Or.inl wd_383
theorem kP_J5_ensureCapacityInternal_d00df : zL (.instanceMethod Y_J5_ensureCapacityInternal_d00df.1) ∧ zL (.selects "java/lang/StringBuilder" Y_J5_ensureCapacityInternal_d00df.1 Y_J5_ensureCapacityInternal_d00df.1) := ⟨wd_385, wd_1316⟩
theorem k0_J5_append_cf1ce : zk0 Y_J5_append_cf1ce 1 := ⟨wd_378, wd_88, ⟨by decide, by decide, by decide +kernel⟩, rfl⟩
theorem kS_J4_29 : zL (.sameMethod Y_J5_append_cf1ce.1.cls Y_J5_append_cf1ce.1.cls Y_J5_append_cf1ce.1.name Y_J5_append_cf1ce.1.desc) ∧ zL (.superclass RJ4 Y_J5_append_cf1ce.1.cls) ∧ zL (.instanceMethod Y_J5_append_cf1ce.1) ∧ Y_J5_append_cf1ce.1.name ≠ "<init>" := ⟨wd_368, wd_377, wd_367, by decide⟩
theorem lS_J4_29 : zL (.methodLink RJ4 29 Y_J5_append_cf1ce.1) := wd_376
theorem k0_J4_append_15ec4 : zk0 Y_J4_append_15ec4 1 := ⟨wd_375, wd_89, ⟨by decide, by decide, by decide +kernel⟩, rfl⟩
theorem kl_J4_23 : zkL RJ4 23 Y_J4_append_15ec4 := Or.inl wd_372
theorem kV_J4_append_15ec4 : zkV Y_J4_append_15ec4 := ⟨wd_373, wd_374⟩
theorem oi_J5_3 : zL (.methodLink RJ5 3 objectInit) ∧ zL (.instanceMethod objectInit) ∧ zL (.code objectInit ⟨#[0xb1]⟩ 1 none) := ⟨wd_345, wd_111, wd_112⟩
theorem fp_J5_init_a7421_22 : zFpB Y_J5_init_a7421 22 8 1 0 := ⟨(RJ4, TJ4, 4), tyJ4, rfl, tyJ4_ok, nmJ4, rfl, rfl, Or.inl rfl⟩
theorem fp_J5_init_a7421_15 : zFp Y_J5_init_a7421 15 8 0 4 := ⟨(RJ4, TJ4, 4), tyJ4, rfl, tyJ4_ok, nmJ4, rfl, Or.inr ⟨_, rfl⟩, Or.inl rfl⟩
theorem k0_J4_append_cf1ce : zk0 Y_J4_append_cf1ce 1 := ⟨wd_371, wd_89, ⟨by decide, by decide, by decide +kernel⟩, rfl⟩
theorem kU_J5_43 : zL (.sameMethod "java/lang/AbstractStringBuilder" "java/lang/AbstractStringBuilder" "append" "(Ljava/lang/String;)Ljava/lang/AbstractStringBuilder;") ∧ (∃ b0 m0 r0, zL (.instanceMethod ⟨"java/lang/AbstractStringBuilder", "append", "(Ljava/lang/String;)Ljava/lang/AbstractStringBuilder;"⟩) ∧ zL (.code ⟨"java/lang/AbstractStringBuilder", "append", "(Ljava/lang/String;)Ljava/lang/AbstractStringBuilder;"⟩ b0 m0 r0)) ∧ zL (.selects "java/lang/StringBuilder" ⟨"java/lang/AbstractStringBuilder", "append", "(Ljava/lang/String;)Ljava/lang/AbstractStringBuilder;"⟩ Y_J4_append_cf1ce.1) ∧ zL (.instanceMethod Y_J4_append_cf1ce.1) ∧ ("java/lang/AbstractStringBuilder" ≠ "java/lang/invoke/MethodHandle" ∧ "java/lang/AbstractStringBuilder" ≠ "java/lang/invoke/VarHandle") ∧ (parseMethodDescriptor "(Ljava/lang/String;)Ljava/lang/AbstractStringBuilder;").map (fun d => d.parameters.length) = some 1 := ⟨wd_368, ⟨_, _, _, wd_367, wd_378⟩, wd_369, wd_370, ⟨by decide, by decide⟩, by decide +kernel⟩
theorem lU_J5_43 : zL (.methodLink RJ5 43 ⟨"java/lang/AbstractStringBuilder", "append", "(Ljava/lang/String;)Ljava/lang/AbstractStringBuilder;"⟩) := wd_366
theorem k0_J5_init_a7421 : zk0 Y_J5_init_a7421 1 := ⟨wd_344, wd_88, ⟨by decide, by decide, by decide +kernel⟩, rfl⟩
theorem kl_J4_7 : zkL RJ4 7 Y_J5_init_a7421 := Or.inl wd_342
theorem kI_J5_init_a7421 : (Y_J5_init_a7421).1.name = "<init>" ∧ zL (.instanceMethod (Y_J5_init_a7421).1) ∧ (Y_J5_init_a7421).2.2.2.1 = none := ⟨rfl, wd_343, rfl⟩
theorem fp_J5_append_c97b9_79 : zFp Y_J5_append_c97b9 79 8 3 0 := ⟨(RJ4, TJ4, 4), tyJ4, rfl, tyJ4_ok, nmJ4, rfl, rfl, Or.inl rfl⟩
theorem k0_J6_getChars_ba4f3 : zk0 Y_J6_getChars_ba4f3 3 := ⟨wd_506, wd_98, ⟨by decide, by decide, by decide +kernel⟩, rfl⟩
theorem kl_J5_248 : zkL RJ5 248 Y_J6_getChars_ba4f3 := Or.inl wd_504
theorem k0_J5_isLatin1_aae02 : zk0 Y_J5_isLatin1_aae02 0 := ⟨wd_421, wd_88, ⟨by decide, by decide, by decide +kernel⟩, rfl⟩
theorem kl_J5_83 : zkL RJ5 83 Y_J5_isLatin1_aae02 := Or.inl wd_417
theorem kP_J5_isLatin1_aae02 : zL (.instanceMethod Y_J5_isLatin1_aae02.1) ∧ zL (.selects "java/lang/StringBuilder" Y_J5_isLatin1_aae02.1 Y_J5_isLatin1_aae02.1) := ⟨wd_418, wd_420⟩
theorem k0_J6_stringSize_0f7a4 : zk0 Y_J6_stringSize_0f7a4 1 := ⟨wd_503, wd_98, ⟨by decide, by decide, by decide +kernel⟩, rfl⟩
theorem kl_J5_245 : zkL RJ5 245 Y_J6_stringSize_0f7a4 := Or.inl wd_501
theorem k0_J5_append_c97b9 : zk0 Y_J5_append_c97b9 1 := ⟨wd_500, wd_88, ⟨by decide, by decide, by decide +kernel⟩, rfl⟩
theorem kS_J4_53 : zL (.sameMethod Y_J5_append_c97b9.1.cls Y_J5_append_c97b9.1.cls Y_J5_append_c97b9.1.name Y_J5_append_c97b9.1.desc) ∧ zL (.superclass RJ4 Y_J5_append_c97b9.1.cls) ∧ zL (.instanceMethod Y_J5_append_c97b9.1) ∧ Y_J5_append_c97b9.1.name ≠ "<init>" := ⟨wd_1311, wd_377, wd_499, by decide⟩
theorem lS_J4_53 : zL (.methodLink RJ4 53 Y_J5_append_c97b9.1) := wd_498
theorem fp_J5_append_3fe6f_79 : zFp Y_J5_append_3fe6f 79 8 3 0 := ⟨(RJ4, TJ4, 4), tyJ4, rfl, tyJ4_ok, nmJ4, rfl, rfl, Or.inl rfl⟩
theorem k0_J1_canEncode_fc78d : zk0 Y_J1_canEncode_fc78d 1 := ⟨wd_535, wd_96, ⟨by decide, by decide, by decide +kernel⟩, rfl⟩
theorem kl_J5_191 : zkL RJ5 191 Y_J1_canEncode_fc78d := Or.inl wd_533
theorem k0_J5_append_3fe6f : zk0 Y_J5_append_3fe6f 1 := ⟨wd_532, wd_88, ⟨by decide, by decide, by decide +kernel⟩, rfl⟩
theorem kS_J4_50 : zL (.sameMethod Y_J5_append_3fe6f.1.cls Y_J5_append_3fe6f.1.cls Y_J5_append_3fe6f.1.name Y_J5_append_3fe6f.1.desc) ∧ zL (.superclass RJ4 Y_J5_append_3fe6f.1.cls) ∧ zL (.instanceMethod Y_J5_append_3fe6f.1) ∧ Y_J5_append_3fe6f.1.name ≠ "<init>" := ⟨wd_1312, wd_377, wd_531, by decide⟩
theorem lS_J4_50 : zL (.methodLink RJ4 50 Y_J5_append_3fe6f.1) := wd_530
theorem k0_J5_length_8abf5 : zk0 Y_J5_length_8abf5 0 := ⟨wd_561, wd_88, ⟨by decide, by decide, by decide +kernel⟩, rfl⟩
theorem kS_J4_343 : zL (.sameMethod Y_J5_length_8abf5.1.cls Y_J5_length_8abf5.1.cls Y_J5_length_8abf5.1.name Y_J5_length_8abf5.1.desc) ∧ zL (.superclass RJ4 Y_J5_length_8abf5.1.cls) ∧ zL (.instanceMethod Y_J5_length_8abf5.1) ∧ Y_J5_length_8abf5.1.name ≠ "<init>" := ⟨wd_1313, wd_377, wd_560, by decide⟩
theorem lS_J4_343 : zL (.methodLink RJ4 343 Y_J5_length_8abf5.1) := wd_559
theorem k0_J7_checkLength_df160 : zk0 Y_J7_checkLength_df160 2 := ⟨wd_590, wd_85, ⟨by decide, by decide, by decide +kernel⟩, rfl⟩
theorem kl_J7_343 : zkL RJ7 343 Y_J7_checkLength_df160 := Or.inl wd_588
theorem cl_J7_310 : zk_cl RJ7 310 := ⟨wd_404, wd_405, wd_406, wd_407, wd_408, wd_409⟩
theorem k0_J7_copyOfRangeByte_39247 : zk0 Y_J7_copyOfRangeByte_39247 3 := ⟨wd_587, wd_85, ⟨by decide, by decide, by decide +kernel⟩, rfl⟩
theorem kl_J7_339 : zkL RJ7 339 Y_J7_copyOfRangeByte_39247 := Or.inl wd_585
theorem oi_J0_1 : zL (.methodLink RJ0 1 objectInit) ∧ zL (.instanceMethod objectInit) ∧ zL (.code objectInit ⟨#[0xb1]⟩ 1 none) := ⟨wd_574, wd_111, wd_112⟩
theorem fp_J0_init_db425_15 : zFpB Y_J0_init_db425 15 9 1 0 := ⟨(RJ0, TJ0, 4), tyJ0, rfl, tyJ0_ok, nmJ0, rfl, rfl, Or.inr ⟨rfl, rfl, rfl, wd_605⟩⟩
theorem fp_J0_init_db425_9 : zFp Y_J0_init_db425 9 9 0 4 := ⟨(RJ0, TJ0, 4), tyJ0, rfl, tyJ0_ok, nmJ0, rfl, Or.inr ⟨_, rfl⟩, Or.inr ⟨rfl, rfl, rfl, wd_604⟩⟩
theorem k0_J7_copyOfRange_39247 : zk0 Y_J7_copyOfRange_39247 3 := ⟨wd_584, wd_85, ⟨by decide, by decide, by decide +kernel⟩, rfl⟩
theorem kl_J0_54 : zkL RJ0 54 Y_J7_copyOfRange_39247 := Or.inl wd_582
theorem kl_J0_1047 : zkL RJ0 1047 Y_J5_isLatin1_aae02 := Or.inl wd_581
theorem k0_J4_length_8abf5 : zk0 Y_J4_length_8abf5 0 := ⟨wd_558, wd_89, ⟨by decide, by decide, by decide +kernel⟩, rfl⟩
theorem kU_J0_549 : zL (.sameMethod "java/lang/AbstractStringBuilder" "java/lang/AbstractStringBuilder" "length" "()I") ∧ (∃ b0 m0 r0, zL (.instanceMethod ⟨"java/lang/AbstractStringBuilder", "length", "()I"⟩) ∧ zL (.code ⟨"java/lang/AbstractStringBuilder", "length", "()I"⟩ b0 m0 r0)) ∧ zL (.selects "java/lang/StringBuilder" ⟨"java/lang/AbstractStringBuilder", "length", "()I"⟩ Y_J4_length_8abf5.1) ∧ zL (.instanceMethod Y_J4_length_8abf5.1) ∧ ("java/lang/AbstractStringBuilder" ≠ "java/lang/invoke/MethodHandle" ∧ "java/lang/AbstractStringBuilder" ≠ "java/lang/invoke/VarHandle") ∧ (parseMethodDescriptor "()I").map (fun d => d.parameters.length) = some 0 := ⟨wd_1313, ⟨_, _, _, wd_560, wd_561⟩, wd_1314, wd_556, ⟨by decide, by decide⟩, by decide +kernel⟩
theorem lU_J0_549 : zL (.methodLink RJ0 549 ⟨"java/lang/AbstractStringBuilder", "length", "()I"⟩) := wd_580
theorem k0_J5_getValue_6d5f1 : zk0 Y_J5_getValue_6d5f1 0 := ⟨wd_579, wd_88, ⟨by decide, by decide, by decide +kernel⟩, rfl⟩
theorem kl_J0_552 : zkL RJ0 552 Y_J5_getValue_6d5f1 := Or.inl wd_575
theorem kP_J5_getValue_6d5f1 : zL (.instanceMethod Y_J5_getValue_6d5f1.1) ∧ zL (.selects "java/lang/StringBuilder" Y_J5_getValue_6d5f1.1 Y_J5_getValue_6d5f1.1) := ⟨wd_576, wd_578⟩
theorem k0_J0_init_db425 : zk0 Y_J0_init_db425 2 := ⟨wd_573, wd_90, ⟨by decide, by decide, by decide +kernel⟩, rfl⟩
theorem kl_J0_489 : zkL RJ0 489 Y_J0_init_db425 := Or.inl wd_571
theorem kI_J0_init_db425 : (Y_J0_init_db425).1.name = "<init>" ∧ zL (.instanceMethod (Y_J0_init_db425).1) ∧ (Y_J0_init_db425).2.2.2.1 = none := ⟨rfl, wd_572, rfl⟩
theorem df_J0 : (∀ j, j < 4 → defaultValue (tyJ0 j) = if zfe 9 j = 4 then .null else .int 0) ∧ ∀ j, j < 4 → zfe 9 j = 0 ∨ zfe 9 j = 4 := ⟨fun j hj => by
    rcases (show j = 0 ∨ j = 1 ∨ j = 2 ∨ j = 3 by omega) with rfl | rfl | rfl | rfl <;> rfl,
  by decide⟩
theorem nw_J4_18 : zNw RJ4 18 9 := ⟨(RJ0, TJ0, 4), tyJ0, rfl, zu_J0, tyJ0_ok, wd_566, wd_567, wd_90, df_J0.1, df_J0.2⟩
theorem k0_J0_init_81219 : zk0 Y_J0_init_81219 1 := ⟨wd_570, wd_90, ⟨by decide, by decide, by decide +kernel⟩, rfl⟩
theorem kl_J4_137 : zkL RJ4 137 Y_J0_init_81219 := Or.inl wd_568
theorem kI_J0_init_81219 : (Y_J0_init_81219).1.name = "<init>" ∧ zL (.instanceMethod (Y_J0_init_81219).1) ∧ (Y_J0_init_81219).2.2.2.1 = none := ⟨rfl, wd_569, rfl⟩
theorem k0_X7_property : zk0 Y_X7_property 1 := ⟨wd_955, wd_79, ⟨by decide, by decide, by decide +kernel⟩, rfl⟩
theorem kl_L_104 : zkL RL 104 Y_X7_property := Or.inl wd_952
theorem kV_X7_property : zkV Y_X7_property := ⟨wd_953, wd_954⟩
theorem k0_L_draw : zk0 Y_L_draw 3 := ⟨wd_334, wd_78, ⟨by decide, by decide, by decide +kernel⟩, rfl⟩
theorem kl_L_40 : zkL RL 40 Y_L_draw := Or.inl wd_332
theorem k0_X7_errorPosition : zk0 Y_X7_errorPosition 0 := ⟨wd_951, wd_79, ⟨by decide, by decide, by decide +kernel⟩, rfl⟩
theorem kl_L_101 : zkL RL 101 Y_X7_errorPosition := Or.inl wd_948
theorem kV_X7_errorPosition : zkV Y_X7_errorPosition := ⟨wd_949, wd_950⟩
theorem k0_X7_errorCode : zk0 Y_X7_errorCode 0 := ⟨wd_947, wd_79, ⟨by decide, by decide, by decide +kernel⟩, rfl⟩
theorem kl_L_98 : zkL RL 98 Y_X7_errorCode := Or.inl wd_944
theorem kV_X7_errorCode : zkV Y_X7_errorCode := ⟨wd_945, wd_946⟩
theorem k0_X7_load : zk0 Y_X7_load 0 := ⟨wd_743, wd_79, ⟨by decide, by decide, by decide +kernel⟩, rfl⟩
theorem kl_L_95 : zkL RL 95 Y_X7_load := Or.inl wd_740
theorem kV_X7_load : zkV Y_X7_load := ⟨wd_741, wd_742⟩
theorem k0_L_feed : zk0 Y_L_feed 2 := ⟨wd_617, wd_78, ⟨by decide, by decide, by decide +kernel⟩, rfl⟩
theorem kl_L_91 : zkL RL 91 Y_L_feed := Or.inl wd_615
theorem k0_J4_toString_0e30d : zk0 Y_J4_toString_0e30d 0 := ⟨wd_565, wd_89, ⟨by decide, by decide, by decide +kernel⟩, rfl⟩
theorem kl_L_87 : zkL RL 87 Y_J4_toString_0e30d := Or.inl wd_562
theorem kV_J4_toString_0e30d : zkV Y_J4_toString_0e30d := ⟨wd_563, wd_564⟩
theorem kl_L_86 : zkL RL 86 Y_J4_length_8abf5 := Or.inl wd_555
theorem kV_J4_length_8abf5 : zkV Y_J4_length_8abf5 := ⟨wd_556, wd_557⟩
theorem kl_L_56 : zkL RL 56 Y_J4_append_15ec4 := Or.inl wd_520
theorem k0_J4_append_bf812 : zk0 Y_J4_append_bf812 1 := ⟨wd_497, wd_89, ⟨by decide, by decide, by decide +kernel⟩, rfl⟩
theorem kl_L_51 : zkL RL 51 Y_J4_append_bf812 := Or.inl wd_494
theorem kV_J4_append_bf812 : zkV Y_J4_append_bf812 := ⟨wd_495, wd_496⟩
theorem k0_J4_append_cf468 : zk0 Y_J4_append_cf468 1 := ⟨wd_529, wd_89, ⟨by decide, by decide, by decide +kernel⟩, rfl⟩
theorem kl_L_69 : zkL RL 69 Y_J4_append_cf468 := Or.inl wd_526
theorem kV_J4_append_cf468 : zkV Y_J4_append_cf468 := ⟨wd_527, wd_528⟩
theorem df_J4 : (∀ j, j < 4 → defaultValue (tyJ4 j) = if zfe 8 j = 4 then .null else .int 0) ∧ ∀ j, j < 4 → zfe 8 j = 0 ∨ zfe 8 j = 4 := ⟨fun j hj => by
    rcases (show j = 0 ∨ j = 1 ∨ j = 2 ∨ j = 3 by omega) with rfl | rfl | rfl | rfl <;> rfl,
  by decide⟩
theorem nw_L_44 : zNw RL 44 8 := ⟨(RJ4, TJ4, 4), tyJ4, rfl, zu_J4, tyJ4_ok, wd_336, wd_337, wd_89, df_J4.1, df_J4.2⟩
theorem k0_J4_init_a7421 : zk0 Y_J4_init_a7421 1 := ⟨wd_341, wd_89, ⟨by decide, by decide, by decide +kernel⟩, rfl⟩
theorem kl_L_48 : zkL RL 48 Y_J4_init_a7421 := Or.inl wd_339
theorem kI_J4_init_a7421 : (Y_J4_init_a7421).1.name = "<init>" ∧ zL (.instanceMethod (Y_J4_init_a7421).1) ∧ (Y_J4_init_a7421).2.2.2.1 = none := ⟨rfl, wd_340, rfl⟩
theorem k0_X7_link : zk0 Y_X7_link 3 := ⟨wd_1055, wd_79, ⟨by decide, by decide, by decide +kernel⟩, rfl⟩
theorem kl_L_124 : zkL RL 124 Y_X7_link := Or.inl wd_1052
theorem kV_X7_link : zkV Y_X7_link := ⟨wd_1053, wd_1054⟩
theorem k0_X7_share : zk0 Y_X7_share 1 := ⟨wd_1000, wd_79, ⟨by decide, by decide, by decide +kernel⟩, rfl⟩
theorem kl_L_112 : zkL RL 112 Y_X7_share := Or.inl wd_997
theorem kV_X7_share : zkV Y_X7_share := ⟨wd_998, wd_999⟩
theorem k0_X7_forget : zk0 Y_X7_forget 2 := ⟨wd_1132, wd_79, ⟨by decide, by decide, by decide +kernel⟩, rfl⟩
theorem kl_L_137 : zkL RL 137 Y_X7_forget := Or.inl wd_1129
theorem kV_X7_forget : zkV Y_X7_forget := ⟨wd_1130, wd_1131⟩
theorem k0_X7_probe : zk0 Y_X7_probe 4 := ⟨wd_967, wd_79, ⟨by decide, by decide, by decide +kernel⟩, rfl⟩
theorem kl_L_108 : zkL RL 108 Y_X7_probe := Or.inl wd_964
theorem kV_X7_probe : zkV Y_X7_probe := ⟨wd_965, wd_966⟩
theorem k0_X7_relay : zk0 Y_X7_relay 1 := ⟨wd_1019, wd_79, ⟨by decide, by decide, by decide +kernel⟩, rfl⟩
theorem kl_L_115 : zkL RL 115 Y_X7_relay := Or.inl wd_1016
theorem kV_X7_relay : zkV Y_X7_relay := ⟨wd_1017, wd_1018⟩
theorem k0_X7_deliver : zk0 Y_X7_deliver 1 := ⟨wd_1023, wd_79, ⟨by decide, by decide, by decide +kernel⟩, rfl⟩
theorem kl_L_118 : zkL RL 118 Y_X7_deliver := Or.inl wd_1020
theorem kV_X7_deliver : zkV Y_X7_deliver := ⟨wd_1021, wd_1022⟩
theorem k0_X7_pass : zk0 Y_X7_pass 1 := ⟨wd_1047, wd_79, ⟨by decide, by decide, by decide +kernel⟩, rfl⟩
theorem kl_L_121 : zkL RL 121 Y_X7_pass := Or.inl wd_1044
theorem kV_X7_pass : zkV Y_X7_pass := ⟨wd_1045, wd_1046⟩
theorem k0_X7_setRule : zk0 Y_X7_setRule 2 := ⟨wd_1062, wd_79, ⟨by decide, by decide, by decide +kernel⟩, rfl⟩
theorem kl_L_128 : zkL RL 128 Y_X7_setRule := Or.inl wd_1059
theorem kV_X7_setRule : zkV Y_X7_setRule := ⟨wd_1060, wd_1061⟩
theorem k0_X7_exchange : zk0 Y_X7_exchange 1 := ⟨wd_1073, wd_79, ⟨by decide, by decide, by decide +kernel⟩, rfl⟩
theorem kl_L_131 : zkL RL 131 Y_X7_exchange := Or.inl wd_1070
theorem kV_X7_exchange : zkV Y_X7_exchange := ⟨wd_1071, wd_1072⟩
theorem k0_X7_cleanse : zk0 Y_X7_cleanse 1 := ⟨wd_1083, wd_79, ⟨by decide, by decide, by decide +kernel⟩, rfl⟩
theorem kl_L_134 : zkL RL 134 Y_X7_cleanse := Or.inl wd_1080
theorem kV_X7_cleanse : zkV Y_X7_cleanse := ⟨wd_1081, wd_1082⟩
theorem mq_L_144 : zL (.methodLink RL 144 Lib.Math.max.name) ∧ zL (.static Lib.Math.max.name) ∧ zL (.initialized "java/lang/Math") ∧ zL (.code Lib.Math.max.name Lib.Math.max.code 2 (some .int)) := ⟨wd_1170, wd_395, wd_93, wd_396⟩
theorem k0_X7_report : zk0 Y_X7_report 3 := ⟨wd_1146, wd_79, ⟨by decide, by decide, by decide +kernel⟩, rfl⟩
theorem kl_L_140 : zkL RL 140 Y_X7_report := Or.inl wd_1143
theorem kV_X7_report : zkV Y_X7_report := ⟨wd_1144, wd_1145⟩
theorem k0_X7_trust : zk0 Y_X7_trust 2 := ⟨wd_1159, wd_79, ⟨by decide, by decide, by decide +kernel⟩, rfl⟩
theorem kl_L_153 : zkL RL 153 Y_X7_trust := Or.inl wd_1156
theorem kV_X7_trust : zkV Y_X7_trust := ⟨wd_1157, wd_1158⟩
theorem k0_L_drift : zk0 Y_L_drift 3 := ⟨wd_1166, wd_78, ⟨by decide, by decide, by decide +kernel⟩, rfl⟩
theorem kl_L_167 : zkL RL 167 Y_L_drift := Or.inl wd_1164
theorem k0_X7_majorityBound : zk0 Y_X7_majorityBound 3 := ⟨wd_1237, wd_79, ⟨by decide, by decide, by decide +kernel⟩, rfl⟩
theorem kl_L_215 : zkL RL 215 Y_X7_majorityBound := Or.inl wd_1234
theorem kV_X7_majorityBound : zkV Y_X7_majorityBound := ⟨wd_1235, wd_1236⟩
theorem k0_X7_majority : zk0 Y_X7_majority 2 := ⟨wd_1224, wd_79, ⟨by decide, by decide, by decide +kernel⟩, rfl⟩
theorem kl_L_212 : zkL RL 212 Y_X7_majority := Or.inl wd_1221
theorem kV_X7_majority : zkV Y_X7_majority := ⟨wd_1222, wd_1223⟩
theorem kl_L_207 : zkL RL 207 Y_J6_bitCount_0f7a4 := Or.inl wd_1215
theorem k0_X7_moved : zk0 Y_X7_moved 3 := ⟨wd_1177, wd_79, ⟨by decide, by decide, by decide +kernel⟩, rfl⟩
theorem kl_L_185 : zkL RL 185 Y_X7_moved := Or.inl wd_1174
theorem kV_X7_moved : zkV Y_X7_moved := ⟨wd_1175, wd_1176⟩
theorem k0_L_isOut : zk0 Y_L_isOut 3 := ⟨wd_1183, wd_78, ⟨by decide, by decide, by decide +kernel⟩, rfl⟩
theorem kl_L_188 : zkL RL 188 Y_L_isOut := Or.inl wd_1181
theorem k0_X7_reports : zk0 Y_X7_reports 1 := ⟨wd_1142, wd_79, ⟨by decide, by decide, by decide +kernel⟩, rfl⟩
theorem kl_L_159 : zkL RL 159 Y_X7_reports := Or.inl wd_1139
theorem kV_X7_reports : zkV Y_X7_reports := ⟨wd_1140, wd_1141⟩
theorem k0_L_agrees : zk0 Y_L_agrees 3 := ⟨wd_1214, wd_78, ⟨by decide, by decide, by decide +kernel⟩, rfl⟩
theorem kl_L_204 : zkL RL 204 Y_L_agrees := Or.inl wd_1212
theorem k0_X7_contradicted : zk0 Y_X7_contradicted 2 := ⟨wd_1211, wd_79, ⟨by decide, by decide, by decide +kernel⟩, rfl⟩
theorem kl_L_201 : zkL RL 201 Y_X7_contradicted := Or.inl wd_1208
theorem kV_X7_contradicted : zkV Y_X7_contradicted := ⟨wd_1209, wd_1210⟩
theorem k0_X7_sources : zk0 Y_X7_sources 2 := ⟨wd_1207, wd_79, ⟨by decide, by decide, by decide +kernel⟩, rfl⟩
theorem kl_L_198 : zkL RL 198 Y_X7_sources := Or.inl wd_1204
theorem kV_X7_sources : zkV Y_X7_sources := ⟨wd_1205, wd_1206⟩
theorem k0_X7_belief : zk0 Y_X7_belief 3 := ⟨wd_1199, wd_79, ⟨by decide, by decide, by decide +kernel⟩, rfl⟩
theorem kl_L_195 : zkL RL 195 Y_X7_belief := Or.inl wd_1196
theorem kV_X7_belief : zkV Y_X7_belief := ⟨wd_1197, wd_1198⟩
theorem k0_X7_status : zk0 Y_X7_status 2 := ⟨wd_1187, wd_79, ⟨by decide, by decide, by decide +kernel⟩, rfl⟩
theorem kl_L_192 : zkL RL 192 Y_X7_status := Or.inl wd_1184
theorem kV_X7_status : zkV Y_X7_status := ⟨wd_1185, wd_1186⟩
theorem k0_L_top : zk0 Y_L_top 4 := ⟨wd_1173, wd_78, ⟨by decide, by decide, by decide +kernel⟩, rfl⟩
theorem kl_L_182 : zkL RL 182 Y_L_top := Or.inl wd_1171
theorem k0_L_by : zk0 Y_L_by 3 := ⟨wd_1163, wd_78, ⟨by decide, by decide, by decide +kernel⟩, rfl⟩
theorem kl_L_175 : zkL RL 175 Y_L_by := Or.inl wd_1161
theorem k0_L_low : zk0 Y_L_low 4 := ⟨wd_1169, wd_78, ⟨by decide, by decide, by decide +kernel⟩, rfl⟩
theorem kl_L_178 : zkL RL 178 Y_L_low := Or.inl wd_1167
theorem k0_L_ahead : zk0 Y_L_ahead 4 := ⟨wd_1155, wd_78, ⟨by decide, by decide, by decide +kernel⟩, rfl⟩
theorem kl_L_171 : zkL RL 171 Y_L_ahead := Or.inl wd_1153
theorem k0_X7_regret : zk0 Y_X7_regret 1 := ⟨wd_1287, wd_79, ⟨by decide, by decide, by decide +kernel⟩, rfl⟩
theorem kl_L_233 : zkL RL 233 Y_X7_regret := Or.inl wd_1284
theorem kV_X7_regret : zkV Y_X7_regret := ⟨wd_1285, wd_1286⟩
theorem k0_X7_nextProbe : zk0 Y_X7_nextProbe 1 := ⟨wd_1282, wd_79, ⟨by decide, by decide, by decide +kernel⟩, rfl⟩
theorem kl_L_230 : zkL RL 230 Y_X7_nextProbe := Or.inl wd_1279
theorem kV_X7_nextProbe : zkV Y_X7_nextProbe := ⟨wd_1280, wd_1281⟩
theorem k0_X7_rivals : zk0 Y_X7_rivals 1 := ⟨wd_1274, wd_79, ⟨by decide, by decide, by decide +kernel⟩, rfl⟩
theorem kl_L_227 : zkL RL 227 Y_X7_rivals := Or.inl wd_1271
theorem kV_X7_rivals : zkV Y_X7_rivals := ⟨wd_1272, wd_1273⟩
theorem k0_L_width : zk0 Y_L_width 3 := ⟨wd_1290, wd_78, ⟨by decide, by decide, by decide +kernel⟩, rfl⟩
theorem kl_L_236 : zkL RL 236 Y_L_width := Or.inl wd_1288
theorem k0_X7_saved : zk0 Y_X7_saved 1 := ⟨wd_1266, wd_79, ⟨by decide, by decide, by decide +kernel⟩, rfl⟩
theorem kl_L_224 : zkL RL 224 Y_X7_saved := Or.inl wd_1263
theorem kV_X7_saved : zkV Y_X7_saved := ⟨wd_1264, wd_1265⟩
theorem k0_X7_best : zk0 Y_X7_best 2 := ⟨wd_1258, wd_79, ⟨by decide, by decide, by decide +kernel⟩, rfl⟩
theorem kl_L_221 : zkL RL 221 Y_X7_best := Or.inl wd_1255
theorem kV_X7_best : zkV Y_X7_best := ⟨wd_1256, wd_1257⟩
theorem k0_X7_own : zk0 Y_X7_own 2 := ⟨wd_1253, wd_79, ⟨by decide, by decide, by decide +kernel⟩, rfl⟩
theorem kl_L_218 : zkL RL 218 Y_X7_own := Or.inl wd_1250
theorem kV_X7_own : zkV Y_X7_own := ⟨wd_1251, wd_1252⟩
theorem k0_X7_agreeing : zk0 Y_X7_agreeing 2 := ⟨wd_1304, wd_79, ⟨by decide, by decide, by decide +kernel⟩, rfl⟩
theorem kl_L_242 : zkL RL 242 Y_X7_agreeing := Or.inl wd_1301
theorem kV_X7_agreeing : zkV Y_X7_agreeing := ⟨wd_1302, wd_1303⟩
theorem k0_X7_common : zk0 Y_X7_common 2 := ⟨wd_1297, wd_79, ⟨by decide, by decide, by decide +kernel⟩, rfl⟩
theorem kl_L_239 : zkL RL 239 Y_X7_common := Or.inl wd_1294
theorem kV_X7_common : zkV Y_X7_common := ⟨wd_1295, wd_1296⟩
theorem k0_L_commons : zk0 Y_L_commons 1 := ⟨wd_1293, wd_78, ⟨by decide, by decide, by decide +kernel⟩, rfl⟩
theorem kl_L_252 : zkL RL 252 Y_L_commons := Or.inl wd_1291
theorem k0_L_chooses : zk0 Y_L_chooses 2 := ⟨wd_1249, wd_78, ⟨by decide, by decide, by decide +kernel⟩, rfl⟩
theorem kl_L_248 : zkL RL 248 Y_L_chooses := Or.inl wd_1247
theorem k0_L_believes : zk0 Y_L_believes 3 := ⟨wd_1138, wd_78, ⟨by decide, by decide, by decide +kernel⟩, rfl⟩
theorem kl_L_245 : zkL RL 245 Y_L_believes := Or.inl wd_1136
theorem k0_L_holds : zk0 Y_L_holds 1 := ⟨wd_1135, wd_78, ⟨by decide, by decide, by decide +kernel⟩, rfl⟩
theorem kl_L_260 : zkL RL 260 Y_L_holds := Or.inl wd_1133
theorem k0_L_act : zk0 Y_L_act 3 := ⟨wd_963, wd_78, ⟨by decide, by decide, by decide +kernel⟩, rfl⟩
theorem kl_L_263 : zkL RL 263 Y_L_act := Or.inl wd_961
theorem df_X7 : (∀ j, j < 8 → defaultValue (tyX7 j) = if zfe 7 j = 4 then .null else .int 0) ∧ ∀ j, j < 8 → zfe 7 j = 0 ∨ zfe 7 j = 4 := ⟨fun j hj => by
    rcases (show j = 0 ∨ j = 1 ∨ j = 2 ∨ j = 3 ∨ j = 4 ∨ j = 5 ∨ j = 6 ∨ j = 7 by omega) with rfl | rfl | rfl | rfl | rfl | rfl | rfl | rfl <;> rfl,
  by decide⟩
theorem nw_L_25 : zNw RL 25 7 := ⟨(RX7, TX7, 8), tyX7, rfl, zu_X7, tyX7_ok, wd_105, wd_106, wd_79, df_X7.1, df_X7.2⟩
theorem k0_L_load : zk0 Y_L_load 2 := ⟨wd_331, wd_78, ⟨by decide, by decide, by decide +kernel⟩, rfl⟩
theorem kl_L_257 : zkL RL 257 Y_L_load := Or.inl wd_329
theorem k0_X7_init : zk0 Y_X7_init 0 := ⟨wd_109, wd_79, ⟨by decide, by decide, by decide +kernel⟩, rfl⟩
theorem kl_L_256 : zkL RL 256 Y_X7_init := Or.inl wd_107
theorem kI_X7_init : (Y_X7_init).1.name = "<init>" ∧ zL (.instanceMethod (Y_X7_init).1) ∧ (Y_X7_init).2.2.2.1 = none := ⟨rfl, wd_108, rfl⟩
