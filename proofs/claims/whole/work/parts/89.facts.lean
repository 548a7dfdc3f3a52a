abbrev Y_X0_init : zY := (yX0_init, cX0_init, 2, none, [])
abbrev R_X0_init : Room := { frames := 1, cells := 1, slots := 1224, locals := 24 }
abbrev Y_X0_at : zY := (yX0_at, cX0_at, 2, (some .int), [])
abbrev R_X0_at : Room := { frames := 0, cells := 0, slots := 0, locals := 0 }
abbrev Y_X0_add : zY := (yX0_add, cX0_add, 2, none, [])
abbrev R_X0_add : Room := { frames := 0, cells := 0, slots := 0, locals := 0 }
abbrev Y_X0_addFour : zY := (yX0_addFour, cX0_addFour, 2, none, [])
abbrev R_X0_addFour : Room := { frames := 1, cells := 0, slots := 0, locals := 21 }
abbrev Y_X0_addNumber : zY := (yX0_addNumber, cX0_addNumber, 5, none, [])
abbrev R_X0_addNumber : Room := { frames := 1, cells := 0, slots := 0, locals := 21 }
abbrev Y_X0_addName : zY := (yX0_addName, cX0_addName, 4, none, [])
abbrev R_X0_addName : Room := { frames := 1, cells := 0, slots := 0, locals := 21 }
abbrev Y_X0_nameCode : zY := (yX0_nameCode, cX0_nameCode, 7, (some .int), [])
abbrev R_X0_nameCode : Room := { frames := 1, cells := 0, slots := 0, locals := 21 }
abbrev Y_X3_init : zY := (yX3_init, cX3_init, 1, none, [])
abbrev R_X3_init : Room := { frames := 1, cells := 1, slots := 6, locals := 24 }
abbrev Y_X5_init : zY := (yX5_init, cX5_init, 2, none, [])
abbrev R_X5_init : Room := { frames := 1, cells := 1, slots := 800, locals := 24 }
abbrev Y_X1_putRule : zY := (yX1_putRule, cX1_putRule, 3, none, [])
abbrev R_X1_putRule : Room := { frames := 0, cells := 0, slots := 0, locals := 0 }
abbrev Y_J7_fill_53178 : zY := (yJ7_fill_53178, cJ7_fill_53178, 4, none, [])
abbrev R_J7_fill_53178 : Room := { frames := 0, cells := 0, slots := 0, locals := 0 }
abbrev Y_X1_listOf : zY := (yX1_listOf, cX1_listOf, 3, (some (.object "PathTrust$Reports")), [])
abbrev R_X1_listOf : Room := { frames := 0, cells := 0, slots := 0, locals := 0 }
abbrev Y_X1_reset : zY := (yX1_reset, cX1_reset, 2, none, [])
abbrev R_X1_reset : Room := { frames := 1, cells := 0, slots := 0, locals := 23 }
abbrev Y_X1_init : zY := (yX1_init, cX1_init, 2, none, [])
abbrev R_X1_init : Room := { frames := 2, cells := 26, slots := 7311, locals := 45 }
abbrev Y_X1_rule : zY := (yX1_rule, cX1_rule, 2, (some .int), [])
abbrev R_X1_rule : Room := { frames := 0, cells := 0, slots := 0, locals := 0 }
abbrev Y_X3_copyFrom : zY := (yX3_copyFrom, cX3_copyFrom, 2, none, [])
abbrev R_X3_copyFrom : Room := { frames := 1, cells := 0, slots := 0, locals := 80 }
abbrev Y_X5_copyFrom : zY := (yX5_copyFrom, cX5_copyFrom, 3, none, [])
abbrev R_X5_copyFrom : Room := { frames := 1, cells := 0, slots := 0, locals := 80 }
abbrev Y_X1_become : zY := (yX1_become, cX1_become, 3, none, [])
abbrev R_X1_become : Room := { frames := 2, cells := 0, slots := 0, locals := 102 }
abbrev Y_X1_trustIn : zY := (yX1_trustIn, cX1_trustIn, 4, (some .int), [])
abbrev R_X1_trustIn : Room := { frames := 0, cells := 0, slots := 0, locals := 0 }
abbrev Y_X1_putTrust : zY := (yX1_putTrust, cX1_putTrust, 5, none, [])
abbrev R_X1_putTrust : Room := { frames := 0, cells := 0, slots := 0, locals := 0 }
abbrev Y_X1_isLinked : zY := (yX1_isLinked, cX1_isLinked, 3, (some .boolean), [])
abbrev R_X1_isLinked : Room := { frames := 1, cells := 0, slots := 0, locals := 23 }
abbrev Y_X1_linkCount : zY := (yX1_linkCount, cX1_linkCount, 4, (some .int), [])
abbrev R_X1_linkCount : Room := { frames := 2, cells := 0, slots := 0, locals := 45 }
abbrev Y_X7_contains : zY := (yX7_contains, cX7_contains, 2, (some .boolean), [])
abbrev R_X7_contains : Room := { frames := 0, cells := 0, slots := 0, locals := 0 }
abbrev Y_X1_reachedFrom : zY := (yX1_reachedFrom, cX1_reachedFrom, 6, (some .int), [])
abbrev R_X1_reachedFrom : Room := { frames := 1, cells := 0, slots := 0, locals := 23 }
abbrev Y_X1_accountPlace : zY := (yX1_accountPlace, cX1_accountPlace, 3, (some .int), [])
abbrev R_X1_accountPlace : Room := { frames := 0, cells := 0, slots := 0, locals := 0 }
abbrev Y_X1_accountOf : zY := (yX1_accountOf, cX1_accountOf, 4, (some .int), [])
abbrev R_X1_accountOf : Room := { frames := 1, cells := 0, slots := 0, locals := 22 }
abbrev Y_X1_tally : zY := (yX1_tally, cX1_tally, 4, none, [])
abbrev R_X1_tally : Room := { frames := 1, cells := 0, slots := 0, locals := 22 }
abbrev Y_X5_get : zY := (yX5_get, cX5_get, 4, (some .int), [])
abbrev R_X5_get : Room := { frames := 0, cells := 0, slots := 0, locals := 0 }
abbrev Y_X1_isTooOld : zY := (yX1_isTooOld, cX1_isTooOld, 3, (some .boolean), [])
abbrev R_X1_isTooOld : Room := { frames := 1, cells := 0, slots := 0, locals := 23 }
abbrev Y_X1_driftOf : zY := (yX1_driftOf, cX1_driftOf, 3, (some .int), [])
abbrev R_X1_driftOf : Room := { frames := 1, cells := 0, slots := 0, locals := 23 }
abbrev Y_X1_beliefSpread : zY := (yX1_beliefSpread, cX1_beliefSpread, 6, (some .int), [])
abbrev R_X1_beliefSpread : Room := { frames := 2, cells := 0, slots := 0, locals := 45 }
abbrev Y_X5_rowOf : zY := (yX5_rowOf, cX5_rowOf, 4, (some .int), [])
abbrev R_X5_rowOf : Room := { frames := 1, cells := 0, slots := 0, locals := 23 }
abbrev Y_X5_closeGap : zY := (yX5_closeGap, cX5_closeGap, 6, none, [])
abbrev R_X5_closeGap : Room := { frames := 1, cells := 0, slots := 0, locals := 80 }
abbrev Y_X5_removeRow : zY := (yX5_removeRow, cX5_removeRow, 2, none, [])
abbrev R_X5_removeRow : Room := { frames := 2, cells := 0, slots := 0, locals := 105 }
abbrev Y_X5_isFull : zY := (yX5_isFull, cX5_isFull, 1, (some .boolean), [])
abbrev R_X5_isFull : Room := { frames := 0, cells := 0, slots := 0, locals := 0 }
abbrev Y_X5_addRow : zY := (yX5_addRow, cX5_addRow, 1, (some .int), [])
abbrev R_X5_addRow : Room := { frames := 1, cells := 0, slots := 0, locals := 20 }
abbrev Y_X5_put : zY := (yX5_put, cX5_put, 5, none, [])
abbrev R_X5_put : Room := { frames := 0, cells := 0, slots := 0, locals := 0 }
abbrev Y_X5_lowMoved : zY := (yX5_lowMoved, cX5_lowMoved, 3, (some .int), [])
abbrev R_X5_lowMoved : Room := { frames := 1, cells := 0, slots := 0, locals := 24 }
abbrev Y_X5_highMoved : zY := (yX5_highMoved, cX5_highMoved, 3, (some .int), [])
abbrev R_X5_highMoved : Room := { frames := 1, cells := 0, slots := 0, locals := 24 }
abbrev Y_X1_judge : zY := (yX1_judge, cX1_judge, 12, (some .boolean), [])
abbrev R_X1_judge : Room := { frames := 2, cells := 0, slots := 0, locals := 46 }
abbrev Y_X1_makeProbe : zY := (yX1_makeProbe, cX1_makeProbe, 9, (some .int), [])
abbrev R_X1_makeProbe : Room := { frames := 3, cells := 0, slots := 0, locals := 126 }
abbrev Y_X5_addCopy : zY := (yX5_addCopy, cX5_addCopy, 5, (some .int), [])
abbrev R_X5_addCopy : Room := { frames := 2, cells := 0, slots := 0, locals := 40 }
abbrev Y_X1_sendReport : zY := (yX1_sendReport, cX1_sendReport, 7, none, [])
abbrev R_X1_sendReport : Room := { frames := 3, cells := 0, slots := 0, locals := 64 }
abbrev Y_X1_sendReports : zY := (yX1_sendReports, cX1_sendReports, 6, (some .int), [])
abbrev R_X1_sendReports : Room := { frames := 4, cells := 0, slots := 0, locals := 90 }
abbrev Y_X1_reasonToRefuse : zY := (yX1_reasonToRefuse, cX1_reasonToRefuse, 7, (some .int), [])
abbrev R_X1_reasonToRefuse : Room := { frames := 2, cells := 0, slots := 0, locals := 46 }
abbrev Y_X1_receive : zY := (yX1_receive, cX1_receive, 7, (some .boolean), [])
abbrev R_X1_receive : Room := { frames := 3, cells := 0, slots := 0, locals := 126 }
abbrev Y_X5_removeFirst : zY := (yX5_removeFirst, cX5_removeFirst, 2, none, [])
abbrev R_X5_removeFirst : Room := { frames := 2, cells := 0, slots := 0, locals := 105 }
abbrev Y_X1_deliverFirst : zY := (yX1_deliverFirst, cX1_deliverFirst, 5, (some .int), [])
abbrev R_X1_deliverFirst : Room := { frames := 4, cells := 0, slots := 0, locals := 152 }
abbrev Y_X1_makeRounds : zY := (yX1_makeRounds, cX1_makeRounds, 5, (some .int), [])
abbrev R_X1_makeRounds : Room := { frames := 5, cells := 0, slots := 0, locals := 176 }
abbrev Y_X1_letPass : zY := (yX1_letPass, cX1_letPass, 6, (some .int), [])
abbrev R_X1_letPass : Room := { frames := 3, cells := 0, slots := 0, locals := 126 }
abbrev Y_X2_init : zY := (yX2_init, cX2_init, 1, none, [])
abbrev R_X2_init : Room := { frames := 1, cells := 1, slots := 6, locals := 24 }
abbrev Y_X2_dropOldest : zY := (yX2_dropOldest, cX2_dropOldest, 3, none, [])
abbrev R_X2_dropOldest : Room := { frames := 0, cells := 0, slots := 0, locals := 0 }
abbrev Y_X2_push : zY := (yX2_push, cX2_push, 3, none, [])
abbrev R_X2_push : Room := { frames := 3, cells := 27, slots := 7320, locals := 124 }
abbrev Y_X2_pop : zY := (yX2_pop, cX2_pop, 3, none, [])
abbrev R_X2_pop : Room := { frames := 3, cells := 0, slots := 0, locals := 124 }
abbrev Y_X3_find : zY := (yX3_find, cX3_find, 3, (some .int), [])
abbrev R_X3_find : Room := { frames := 0, cells := 0, slots := 0, locals := 0 }
abbrev Y_X3_add : zY := (yX3_add, cX3_add, 2, none, [])
abbrev R_X3_add : Room := { frames := 0, cells := 0, slots := 0, locals := 0 }
abbrev Y_X3_get : zY := (yX3_get, cX3_get, 2, (some .int), [])
abbrev R_X3_get : Room := { frames := 0, cells := 0, slots := 0, locals := 0 }
abbrev Y_X4_init : zY := (yX4_init, cX4_init, 3, none, [])
abbrev R_X4_init : Room := { frames := 1, cells := 0, slots := 0, locals := 24 }
abbrev Y_X4_kindOf : zY := (yX4_kindOf, cX4_kindOf, 1, (some .int), [])
abbrev R_X4_kindOf : Room := { frames := 0, cells := 0, slots := 0, locals := 0 }
abbrev Y_X4_next : zY := (yX4_next, cX4_next, 1, none, [])
abbrev R_X4_next : Room := { frames := 1, cells := 0, slots := 0, locals := 21 }
abbrev Y_X4_isWord : zY := (yX4_isWord, cX4_isWord, 3, (some .boolean), [])
abbrev R_X4_isWord : Room := { frames := 5, cells := 0, slots := 0, locals := 150 }
abbrev Y_X4_fail : zY := (yX4_fail, cX4_fail, 2, (some .boolean), [])
abbrev R_X4_fail : Room := { frames := 0, cells := 0, slots := 0, locals := 0 }
abbrev Y_X4_readWord : zY := (yX4_readWord, cX4_readWord, 2, (some .boolean), [])
abbrev R_X4_readWord : Room := { frames := 6, cells := 0, slots := 0, locals := 172 }
abbrev Y_X4_readNumber : zY := (yX4_readNumber, cX4_readNumber, 5, (some .boolean), [])
abbrev R_X4_readNumber : Room := { frames := 2, cells := 0, slots := 0, locals := 41 }
abbrev Y_X4_readRule : zY := (yX4_readRule, cX4_readRule, 3, (some .boolean), [])
abbrev R_X4_readRule : Room := { frames := 7, cells := 0, slots := 0, locals := 193 }
abbrev Y_X4_readSemicolon : zY := (yX4_readSemicolon, cX4_readSemicolon, 1, (some .boolean), [])
abbrev R_X4_readSemicolon : Room := { frames := 2, cells := 0, slots := 0, locals := 41 }
abbrev Y_X4_readRules : zY := (yX4_readRules, cX4_readRules, 1, (some .boolean), [])
abbrev R_X4_readRules : Room := { frames := 8, cells := 0, slots := 0, locals := 215 }
abbrev Y_X4_isName : zY := (yX4_isName, cX4_isName, 2, (some .boolean), [])
abbrev R_X4_isName : Room := { frames := 6, cells := 0, slots := 0, locals := 172 }
abbrev Y_X4_readNewName : zY := (yX4_readNewName, cX4_readNewName, 3, (some .boolean), [])
abbrev R_X4_readNewName : Room := { frames := 7, cells := 0, slots := 0, locals := 193 }
abbrev Y_X4_isNameOf : zY := (yX4_isNameOf, cX4_isNameOf, 2, (some .boolean), [])
abbrev R_X4_isNameOf : Room := { frames := 7, cells := 0, slots := 0, locals := 193 }
abbrev Y_X4_readLink : zY := (yX4_readLink, cX4_readLink, 4, (some .boolean), [])
abbrev R_X4_readLink : Room := { frames := 8, cells := 0, slots := 0, locals := 214 }
abbrev Y_X4_readProbe : zY := (yX4_readProbe, cX4_readProbe, 4, (some .boolean), [])
abbrev R_X4_readProbe : Room := { frames := 8, cells := 0, slots := 0, locals := 214 }
abbrev Y_X4_parse : zY := (yX4_parse, cX4_parse, 3, (some .boolean), [])
abbrev R_X4_parse : Room := { frames := 9, cells := 0, slots := 0, locals := 237 }
abbrev Y_X5_removeAll : zY := (yX5_removeAll, cX5_removeAll, 5, (some .int), [])
abbrev R_X5_removeAll : Room := { frames := 3, cells := 0, slots := 0, locals := 126 }
abbrev Y_X6_init : zY := (yX6_init, cX6_init, 1, none, [])
abbrev R_X6_init : Room := { frames := 1, cells := 6, slots := 36, locals := 24 }
abbrev Y_X6_note : zY := (yX6_note, cX6_note, 10, none, [])
abbrev R_X6_note : Room := { frames := 3, cells := 0, slots := 0, locals := 70 }
abbrev Y_X6_nextToTake : zY := (yX6_nextToTake, cX6_nextToTake, 4, (some .int), [])
abbrev R_X6_nextToTake : Room := { frames := 0, cells := 0, slots := 0, locals := 0 }
abbrev Y_X6_take : zY := (yX6_take, cX6_take, 4, none, [])
abbrev R_X6_take : Room := { frames := 1, cells := 0, slots := 0, locals := 24 }
abbrev Y_X6_form : zY := (yX6_form, cX6_form, 7, none, [])
abbrev R_X6_form : Room := { frames := 4, cells := 0, slots := 0, locals := 99 }
abbrev Y_X6_statusOf : zY := (yX6_statusOf, cX6_statusOf, 3, (some .int), [])
abbrev R_X6_statusOf : Room := { frames := 0, cells := 0, slots := 0, locals := 0 }
abbrev Y_X6_originsWith : zY := (yX6_originsWith, cX6_originsWith, 4, (some .int), [])
abbrev R_X6_originsWith : Room := { frames := 0, cells := 0, slots := 0, locals := 0 }
abbrev Y_X6_originsAround : zY := (yX6_originsAround, cX6_originsAround, 4, (some .int), [])
abbrev R_X6_originsAround : Room := { frames := 0, cells := 0, slots := 0, locals := 0 }
abbrev Y_J6_bitCount_0f7a4 : zY := (yJ6_bitCount_0f7a4, cJ6_bitCount_0f7a4, 1, (some .int), [])
abbrev R_J6_bitCount_0f7a4 : Room := { frames := 0, cells := 0, slots := 0, locals := 0 }
abbrev Y_X6_largestSet : zY := (yX6_largestSet, cX6_largestSet, 5, (some .int), [])
abbrev R_X6_largestSet : Room := { frames := 1, cells := 0, slots := 0, locals := 23 }
abbrev Y_X6_lowOf : zY := (yX6_lowOf, cX6_lowOf, 4, (some .int), [])
abbrev R_X6_lowOf : Room := { frames := 1, cells := 0, slots := 0, locals := 24 }
abbrev Y_X6_highOf : zY := (yX6_highOf, cX6_highOf, 4, (some .int), [])
abbrev R_X6_highOf : Room := { frames := 1, cells := 0, slots := 0, locals := 24 }
abbrev Y_X7_init : zY := (yX7_init, cX7_init, 1, none, [])
abbrev R_X7_init : Room := { frames := 3, cells := 69, slots := 17155, locals := 66 }
abbrev Y_X7_append : zY := (yX7_append, cX7_append, 6, (some .int), [])
abbrev R_X7_append : Room := { frames := 6, cells := 1, slots := 6, locals := 90 }
abbrev Y_X7_checkRange : zY := (yX7_checkRange, cX7_checkRange, 3, none, [])
abbrev R_X7_checkRange : Room := { frames := 6, cells := 1, slots := 6, locals := 90 }
abbrev Y_X7_truncate : zY := (yX7_truncate, cX7_truncate, 2, none, [])
abbrev R_X7_truncate : Room := { frames := 7, cells := 1, slots := 6, locals := 112 }
abbrev Y_X7_load : zY := (yX7_load, cX7_load, 2, (some .int), [])
abbrev R_X7_load : Room := { frames := 10, cells := 27, slots := 7320, locals := 259 }
abbrev Y_X7_errorCode : zY := (yX7_errorCode, cX7_errorCode, 1, (some .int), [])
abbrev R_X7_errorCode : Room := { frames := 0, cells := 0, slots := 0, locals := 0 }
abbrev Y_X7_errorPosition : zY := (yX7_errorPosition, cX7_errorPosition, 1, (some .int), [])
abbrev R_X7_errorPosition : Room := { frames := 0, cells := 0, slots := 0, locals := 0 }
abbrev Y_X7_findInput : zY := (yX7_findInput, cX7_findInput, 3, (some .int), [])
abbrev R_X7_findInput : Room := { frames := 2, cells := 0, slots := 0, locals := 47 }
abbrev Y_X7_findAgent : zY := (yX7_findAgent, cX7_findAgent, 1, (some .int), [])
abbrev R_X7_findAgent : Room := { frames := 3, cells := 0, slots := 0, locals := 69 }
abbrev Y_X7_findWay : zY := (yX7_findWay, cX7_findWay, 1, (some .int), [])
abbrev R_X7_findWay : Room := { frames := 3, cells := 0, slots := 0, locals := 69 }
abbrev Y_X7_property : zY := (yX7_property, cX7_property, 2, (some .int), [])
abbrev R_X7_property : Room := { frames := 7, cells := 1, slots := 6, locals := 112 }
abbrev Y_X7_checkAgent : zY := (yX7_checkAgent, cX7_checkAgent, 2, none, [])
abbrev R_X7_checkAgent : Room := { frames := 6, cells := 1, slots := 6, locals := 90 }
abbrev Y_X7_trust : zY := (yX7_trust, cX7_trust, 3, (some .int), [])
abbrev R_X7_trust : Room := { frames := 7, cells := 2, slots := 12, locals := 111 }
abbrev Y_X7_neighbors : zY := (yX7_neighbors, cX7_neighbors, 4, (some .int), [])
abbrev R_X7_neighbors : Room := { frames := 7, cells := 1, slots := 6, locals := 111 }
abbrev Y_X7_distance : zY := (yX7_distance, cX7_distance, 5, (some .int), [])
abbrev R_X7_distance : Room := { frames := 7, cells := 2, slots := 12, locals := 111 }
abbrev Y_X7_bottleneck : zY := (yX7_bottleneck, cX7_bottleneck, 6, (some .int), [])
abbrev R_X7_bottleneck : Room := { frames := 7, cells := 2, slots := 12, locals := 111 }
abbrev Y_X7_mostTrusted : zY := (yX7_mostTrusted, cX7_mostTrusted, 6, (some .int), [])
abbrev R_X7_mostTrusted : Room := { frames := 7, cells := 1, slots := 6, locals := 111 }
abbrev Y_X7_reports : zY := (yX7_reports, cX7_reports, 2, (some .int), [])
abbrev R_X7_reports : Room := { frames := 7, cells := 1, slots := 6, locals := 111 }
abbrev Y_X7_checkReport : zY := (yX7_checkReport, cX7_checkReport, 3, none, [])
abbrev R_X7_checkReport : Room := { frames := 7, cells := 2, slots := 12, locals := 111 }
abbrev Y_X7_report : zY := (yX7_report, cX7_report, 4, (some .int), [])
abbrev R_X7_report : Room := { frames := 8, cells := 3, slots := 18, locals := 133 }
abbrev Y_X7_statusIn : zY := (yX7_statusIn, cX7_statusIn, 3, (some .int), [])
abbrev R_X7_statusIn : Room := { frames := 5, cells := 0, slots := 0, locals := 125 }
abbrev Y_X7_status : zY := (yX7_status, cX7_status, 3, (some .int), [])
abbrev R_X7_status : Room := { frames := 8, cells := 2, slots := 12, locals := 147 }
abbrev Y_X7_moved : zY := (yX7_moved, cX7_moved, 7, (some .int), [])
abbrev R_X7_moved : Room := { frames := 8, cells := 3, slots := 18, locals := 133 }
abbrev Y_X7_checkWay : zY := (yX7_checkWay, cX7_checkWay, 2, none, [])
abbrev R_X7_checkWay : Room := { frames := 6, cells := 1, slots := 6, locals := 90 }
abbrev Y_X7_own : zY := (yX7_own, cX7_own, 3, (some .int), [])
abbrev R_X7_own : Room := { frames := 7, cells := 2, slots := 12, locals := 111 }
abbrev Y_X7_believed : zY := (yX7_believed, cX7_believed, 5, (some .int), [])
abbrev R_X7_believed : Room := { frames := 5, cells := 0, slots := 0, locals := 125 }
abbrev Y_X7_belief : zY := (yX7_belief, cX7_belief, 4, (some .int), [])
abbrev R_X7_belief : Room := { frames := 7, cells := 3, slots := 18, locals := 149 }
abbrev Y_X7_originsOf : zY := (yX7_originsOf, cX7_originsOf, 4, (some .int), [])
abbrev R_X7_originsOf : Room := { frames := 5, cells := 0, slots := 0, locals := 125 }
abbrev Y_X7_sources : zY := (yX7_sources, cX7_sources, 3, (some .int), [])
abbrev R_X7_sources : Room := { frames := 7, cells := 2, slots := 12, locals := 148 }
abbrev Y_X7_contradicted : zY := (yX7_contradicted, cX7_contradicted, 3, (some .int), [])
abbrev R_X7_contradicted : Room := { frames := 7, cells := 2, slots := 12, locals := 148 }
abbrev Y_X7_majority : zY := (yX7_majority, cX7_majority, 3, (some .int), [])
abbrev R_X7_majority : Room := { frames := 7, cells := 2, slots := 12, locals := 125 }
abbrev Y_X7_majorityBound : zY := (yX7_majorityBound, cX7_majorityBound, 5, (some .int), [])
abbrev R_X7_majorityBound : Room := { frames := 7, cells := 3, slots := 18, locals := 125 }
abbrev Y_X7_bestWay : zY := (yX7_bestWay, cX7_bestWay, 8, (some .int), [])
abbrev R_X7_bestWay : Room := { frames := 5, cells := 0, slots := 0, locals := 125 }
abbrev Y_X7_best : zY := (yX7_best, cX7_best, 3, (some .int), [])
abbrev R_X7_best : Room := { frames := 7, cells := 2, slots := 12, locals := 152 }
abbrev Y_X7_rivalsOf : zY := (yX7_rivalsOf, cX7_rivalsOf, 6, (some .int), [])
abbrev R_X7_rivalsOf : Room := { frames := 5, cells := 0, slots := 0, locals := 125 }
abbrev Y_X7_rivals : zY := (yX7_rivals, cX7_rivals, 2, (some .int), [])
abbrev R_X7_rivals : Room := { frames := 7, cells := 1, slots := 6, locals := 152 }
abbrev Y_X7_widthOf : zY := (yX7_widthOf, cX7_widthOf, 5, (some .int), [])
abbrev R_X7_widthOf : Room := { frames := 5, cells := 0, slots := 0, locals := 125 }
abbrev Y_X7_nextProbe : zY := (yX7_nextProbe, cX7_nextProbe, 8, (some .int), [])
abbrev R_X7_nextProbe : Room := { frames := 7, cells := 1, slots := 6, locals := 152 }
abbrev Y_X7_regret : zY := (yX7_regret, cX7_regret, 4, (some .int), [])
abbrev R_X7_regret : Room := { frames := 7, cells := 1, slots := 6, locals := 152 }
abbrev Y_X7_saved : zY := (yX7_saved, cX7_saved, 4, (some .int), [])
abbrev R_X7_saved : Room := { frames := 7, cells := 1, slots := 6, locals := 149 }
abbrev Y_X7_agreeing : zY := (yX7_agreeing, cX7_agreeing, 7, (some .int), [])
abbrev R_X7_agreeing : Room := { frames := 7, cells := 2, slots := 12, locals := 149 }
abbrev Y_X7_common : zY := (yX7_common, cX7_common, 10, (some .int), [])
abbrev R_X7_common : Room := { frames := 7, cells := 2, slots := 12, locals := 112 }
abbrev Y_X7_account : zY := (yX7_account, cX7_account, 3, (some .int), [])
abbrev R_X7_account : Room := { frames := 7, cells := 2, slots := 12, locals := 112 }
abbrev Y_X7_message : zY := (yX7_message, cX7_message, 3, (some .int), [])
abbrev R_X7_message : Room := { frames := 7, cells := 2, slots := 12, locals := 112 }
abbrev Y_X7_standing : zY := (yX7_standing, cX7_standing, 5, (some .float), [])
abbrev R_X7_standing : Room := { frames := 7, cells := 1, slots := 6, locals := 111 }
abbrev Y_X7_checkBounds : zY := (yX7_checkBounds, cX7_checkBounds, 2, none, [])
abbrev R_X7_checkBounds : Room := { frames := 7, cells := 2, slots := 12, locals := 112 }
abbrev Y_X7_beliefIf : zY := (yX7_beliefIf, cX7_beliefIf, 6, (some .int), [])
abbrev R_X7_beliefIf : Room := { frames := 8, cells := 5, slots := 30, locals := 154 }
abbrev Y_X7_trustIf : zY := (yX7_trustIf, cX7_trustIf, 6, (some .int), [])
abbrev R_X7_trustIf : Room := { frames := 8, cells := 5, slots := 30, locals := 154 }
abbrev Y_X7_informed : zY := (yX7_informed, cX7_informed, 6, (some .int), [])
abbrev R_X7_informed : Room := { frames := 7, cells := 3, slots := 18, locals := 200 }
abbrev Y_X7_widthAfter : zY := (yX7_widthAfter, cX7_widthAfter, 4, (some .int), [])
abbrev R_X7_widthAfter : Room := { frames := 7, cells := 3, slots := 18, locals := 151 }
abbrev Y_X7_widthWithout : zY := (yX7_widthWithout, cX7_widthWithout, 4, (some .int), [])
abbrev R_X7_widthWithout : Room := { frames := 7, cells := 3, slots := 18, locals := 149 }
abbrev Y_X7_widthSum : zY := (yX7_widthSum, cX7_widthSum, 5, (some .int), [])
abbrev R_X7_widthSum : Room := { frames := 5, cells := 0, slots := 0, locals := 125 }
abbrev Y_X7_mostUseful : zY := (yX7_mostUseful, cX7_mostUseful, 6, (some .int), [])
abbrev R_X7_mostUseful : Room := { frames := 7, cells := 1, slots := 6, locals := 149 }
abbrev Y_X7_bestThen : zY := (yX7_bestThen, cX7_bestThen, 2, (some .int), [])
abbrev R_X7_bestThen : Room := { frames := 7, cells := 1, slots := 6, locals := 176 }
abbrev Y_X7_probe : zY := (yX7_probe, cX7_probe, 5, (some .int), [])
abbrev R_X7_probe : Room := { frames := 8, cells := 31, slots := 7344, locals := 154 }
abbrev Y_X7_share : zY := (yX7_share, cX7_share, 2, (some .int), [])
abbrev R_X7_share : Room := { frames := 7, cells := 28, slots := 7326, locals := 146 }
abbrev Y_X7_relay : zY := (yX7_relay, cX7_relay, 2, (some .int), [])
abbrev R_X7_relay : Room := { frames := 7, cells := 28, slots := 7326, locals := 146 }
abbrev Y_X7_deliver : zY := (yX7_deliver, cX7_deliver, 2, (some .int), [])
abbrev R_X7_deliver : Room := { frames := 7, cells := 28, slots := 7326, locals := 176 }
abbrev Y_X7_lose : zY := (yX7_lose, cX7_lose, 1, (some .int), [])
abbrev R_X7_lose : Room := { frames := 6, cells := 27, slots := 7320, locals := 146 }
abbrev Y_X7_exchange : zY := (yX7_exchange, cX7_exchange, 2, (some .int), [])
abbrev R_X7_exchange : Room := { frames := 7, cells := 28, slots := 7326, locals := 200 }
abbrev Y_X7_pass : zY := (yX7_pass, cX7_pass, 2, (some .int), [])
abbrev R_X7_pass : Room := { frames := 7, cells := 28, slots := 7326, locals := 151 }
abbrev Y_X7_link : zY := (yX7_link, cX7_link, 6, (some .boolean), [])
abbrev R_X7_link : Room := { frames := 7, cells := 29, slots := 7332, locals := 146 }
abbrev Y_X7_setTrust : zY := (yX7_setTrust, cX7_setTrust, 5, (some .int), [])
abbrev R_X7_setTrust : Room := { frames := 7, cells := 30, slots := 7338, locals := 146 }
abbrev Y_X7_isRuleValue : zY := (yX7_isRuleValue, cX7_isRuleValue, 2, (some .boolean), [])
abbrev R_X7_isRuleValue : Room := { frames := 0, cells := 0, slots := 0, locals := 0 }
abbrev Y_X7_setRule : zY := (yX7_setRule, cX7_setRule, 4, (some .int), [])
abbrev R_X7_setRule : Room := { frames := 6, cells := 27, slots := 7320, locals := 146 }
abbrev Y_X7_forget : zY := (yX7_forget, cX7_forget, 3, (some .int), [])
abbrev R_X7_forget : Room := { frames := 7, cells := 29, slots := 7332, locals := 150 }
abbrev Y_X7_cleanse : zY := (yX7_cleanse, cX7_cleanse, 4, (some .int), [])
abbrev R_X7_cleanse : Room := { frames := 7, cells := 28, slots := 7326, locals := 150 }
abbrev Y_X7_checkSlot : zY := (yX7_checkSlot, cX7_checkSlot, 2, none, [])
abbrev R_X7_checkSlot : Room := { frames := 6, cells := 1, slots := 6, locals := 90 }
abbrev Y_X7_keep : zY := (yX7_keep, cX7_keep, 3, (some .int), [])
abbrev R_X7_keep : Room := { frames := 7, cells := 28, slots := 7326, locals := 124 }
abbrev Y_X7_restore : zY := (yX7_restore, cX7_restore, 3, (some .int), [])
abbrev R_X7_restore : Room := { frames := 7, cells := 28, slots := 7326, locals := 146 }
abbrev Y_X7_undo : zY := (yX7_undo, cX7_undo, 1, (some .int), [])
abbrev R_X7_undo : Room := { frames := 6, cells := 1, slots := 6, locals := 146 }
abbrev Y_X7_undoCount : zY := (yX7_undoCount, cX7_undoCount, 1, (some .int), [])
abbrev R_X7_undoCount : Room := { frames := 0, cells := 0, slots := 0, locals := 0 }
abbrev Y_X7_writeBounds : zY := (yX7_writeBounds, cX7_writeBounds, 3, none, [])
abbrev R_X7_writeBounds : Room := { frames := 2, cells := 0, slots := 0, locals := 45 }
abbrev Y_X7_writeBeliefs : zY := (yX7_writeBeliefs, cX7_writeBeliefs, 3, (some .int), [])
abbrev R_X7_writeBeliefs : Room := { frames := 7, cells := 1, slots := 6, locals := 125 }
abbrev Y_X7_writeStatus : zY := (yX7_writeStatus, cX7_writeStatus, 2, none, [])
abbrev R_X7_writeStatus : Room := { frames := 1, cells := 0, slots := 0, locals := 21 }
abbrev Y_X7_writeReports : zY := (yX7_writeReports, cX7_writeReports, 4, (some .int), [])
abbrev R_X7_writeReports : Room := { frames := 7, cells := 1, slots := 6, locals := 147 }
abbrev Y_X7_outputByte : zY := (yX7_outputByte, cX7_outputByte, 2, (some .int), [])
abbrev R_X7_outputByte : Room := { frames := 6, cells := 1, slots := 6, locals := 90 }
abbrev Y_X8_thrown : zY := (yX8_thrown, cX8_thrown, 1, (some .int), [])
abbrev R_X8_thrown : Room := { frames := 0, cells := 0, slots := 0, locals := 0 }
abbrev Y_X8_in : zY := (yX8_in, cX8_in, 6, (some .boolean), [])
abbrev R_X8_in : Room := { frames := 0, cells := 0, slots := 0, locals := 0 }
abbrev Y_X8_passes3 : zY := (yX8_passes3, cX8_passes3, 4, (some .boolean), [])
abbrev R_X8_passes3 : Room := { frames := 0, cells := 0, slots := 0, locals := 0 }
abbrev Y_X8_passes2 : zY := (yX8_passes2, cX8_passes2, 3, (some .boolean), [])
abbrev R_X8_passes2 : Room := { frames := 1, cells := 0, slots := 0, locals := 23 }
abbrev Y_X8_passes : zY := (yX8_passes, cX8_passes, 2, (some .boolean), [])
abbrev R_X8_passes : Room := { frames := 1, cells := 0, slots := 0, locals := 23 }
abbrev Y_X8_clear : zY := (yX8_clear, cX8_clear, 2, none, [])
abbrev R_X8_clear : Room := { frames := 0, cells := 0, slots := 0, locals := 0 }
abbrev Y_X8_init : zY := (yX8_init, cX8_init, 1, none, [])
abbrev R_X8_init : Room := { frames := 1, cells := 11, slots := 28965, locals := 24 }
abbrev Y_X8_agents : zY := (yX8_agents, cX8_agents, 1, (some .int), [])
abbrev R_X8_agents : Room := { frames := 0, cells := 0, slots := 0, locals := 0 }
abbrev Y_X8_ways : zY := (yX8_ways, cX8_ways, 1, (some .int), [])
abbrev R_X8_ways : Room := { frames := 0, cells := 0, slots := 0, locals := 0 }
abbrev Y_X8_rule : zY := (yX8_rule, cX8_rule, 2, (some .int), [])
abbrev R_X8_rule : Room := { frames := 0, cells := 0, slots := 0, locals := 0 }
abbrev Y_X8_isAgent : zY := (yX8_isAgent, cX8_isAgent, 2, (some .boolean), [])
abbrev R_X8_isAgent : Room := { frames := 1, cells := 0, slots := 0, locals := 25 }
abbrev Y_X8_isWay : zY := (yX8_isWay, cX8_isWay, 2, (some .boolean), [])
abbrev R_X8_isWay : Room := { frames := 1, cells := 0, slots := 0, locals := 25 }
abbrev Y_X8_trustOf : zY := (yX8_trustOf, cX8_trustOf, 3, (some .int), [])
abbrev R_X8_trustOf : Room := { frames := 0, cells := 0, slots := 0, locals := 0 }
abbrev Y_X8_putTrust : zY := (yX8_putTrust, cX8_putTrust, 4, none, [])
abbrev R_X8_putTrust : Room := { frames := 0, cells := 0, slots := 0, locals := 0 }
abbrev Y_X8_areLinked : zY := (yX8_areLinked, cX8_areLinked, 3, (some .boolean), [])
abbrev R_X8_areLinked : Room := { frames := 1, cells := 0, slots := 0, locals := 22 }
abbrev Y_X8_listAt : zY := (yX8_listAt, cX8_listAt, 1, (some .int), [])
abbrev R_X8_listAt : Room := { frames := 0, cells := 0, slots := 0, locals := 0 }
abbrev Y_X8_manyOf : zY := (yX8_manyOf, cX8_manyOf, 2, (some .int), [])
abbrev R_X8_manyOf : Room := { frames := 1, cells := 0, slots := 0, locals := 20 }
abbrev Y_X8_reportAt : zY := (yX8_reportAt, cX8_reportAt, 2, (some .int), [])
abbrev R_X8_reportAt : Room := { frames := 1, cells := 0, slots := 0, locals := 20 }
abbrev Y_X8_ofReport : zY := (yX8_ofReport, cX8_ofReport, 4, (some .int), [])
abbrev R_X8_ofReport : Room := { frames := 2, cells := 0, slots := 0, locals := 41 }
abbrev Y_X8_isReport : zY := (yX8_isReport, cX8_isReport, 3, (some .boolean), [])
abbrev R_X8_isReport : Room := { frames := 2, cells := 0, slots := 0, locals := 46 }
abbrev Y_X8_count : zY := (yX8_count, cX8_count, 3, none, [])
abbrev R_X8_count : Room := { frames := 0, cells := 0, slots := 0, locals := 0 }
abbrev Y_X8_reportOf : zY := (yX8_reportOf, cX8_reportOf, 5, (some .int), [])
abbrev R_X8_reportOf : Room := { frames := 3, cells := 0, slots := 0, locals := 64 }
abbrev Y_X8_ownOf : zY := (yX8_ownOf, cX8_ownOf, 3, (some .int), [])
abbrev R_X8_ownOf : Room := { frames := 4, cells := 0, slots := 0, locals := 88 }
abbrev Y_X8_isOwn : zY := (yX8_isOwn, cX8_isOwn, 3, (some .boolean), [])
abbrev R_X8_isOwn : Room := { frames := 3, cells := 0, slots := 0, locals := 64 }
abbrev Y_X8_dropReport : zY := (yX8_dropReport, cX8_dropReport, 4, none, [])
abbrev R_X8_dropReport : Room := { frames := 2, cells := 0, slots := 0, locals := 41 }
abbrev Y_X8_ageAt : zY := (yX8_ageAt, cX8_ageAt, 2, (some .int), [])
abbrev R_X8_ageAt : Room := { frames := 0, cells := 0, slots := 0, locals := 0 }
abbrev Y_X8_lower : zY := (yX8_lower, cX8_lower, 2, (some .int), [])
abbrev R_X8_lower : Room := { frames := 1, cells := 0, slots := 0, locals := 24 }
abbrev Y_X8_higher : zY := (yX8_higher, cX8_higher, 2, (some .int), [])
abbrev R_X8_higher : Room := { frames := 1, cells := 0, slots := 0, locals := 24 }
abbrev Y_X8_driftOf : zY := (yX8_driftOf, cX8_driftOf, 3, (some .int), [])
abbrev R_X8_driftOf : Room := { frames := 3, cells := 0, slots := 0, locals := 64 }
abbrev Y_X8_lowBy : zY := (yX8_lowBy, cX8_lowBy, 4, (some .int), [])
abbrev R_X8_lowBy : Room := { frames := 3, cells := 0, slots := 0, locals := 64 }
abbrev Y_X8_topBy : zY := (yX8_topBy, cX8_topBy, 4, (some .int), [])
abbrev R_X8_topBy : Room := { frames := 3, cells := 0, slots := 0, locals := 64 }
abbrev Y_X8_doMeet : zY := (yX8_doMeet, cX8_doMeet, 5, (some .boolean), [])
abbrev R_X8_doMeet : Room := { frames := 4, cells := 0, slots := 0, locals := 87 }
abbrev Y_X8_judges : zY := (yX8_judges, cX8_judges, 6, (some .boolean), [])
abbrev R_X8_judges : Room := { frames := 5, cells := 0, slots := 0, locals := 111 }
abbrev Y_X8_comes : zY := (yX8_comes, cX8_comes, 11, (some .int), [])
abbrev R_X8_comes : Room := { frames := 4, cells := 0, slots := 0, locals := 88 }
abbrev Y_X8_doProbe : zY := (yX8_doProbe, cX8_doProbe, 8, (some .int), [])
abbrev R_X8_doProbe : Room := { frames := 6, cells := 0, slots := 0, locals := 136 }
abbrev Y_X8_queued : zY := (yX8_queued, cX8_queued, 1, (some .int), [])
abbrev R_X8_queued : Room := { frames := 0, cells := 0, slots := 0, locals := 0 }
abbrev Y_X8_messageAt : zY := (yX8_messageAt, cX8_messageAt, 1, (some .int), [])
abbrev R_X8_messageAt : Room := { frames := 0, cells := 0, slots := 0, locals := 0 }
abbrev Y_X8_ofMessage : zY := (yX8_ofMessage, cX8_ofMessage, 3, (some .int), [])
abbrev R_X8_ofMessage : Room := { frames := 1, cells := 0, slots := 0, locals := 20 }
abbrev Y_X8_isMessage : zY := (yX8_isMessage, cX8_isMessage, 2, (some .boolean), [])
abbrev R_X8_isMessage : Room := { frames := 1, cells := 0, slots := 0, locals := 25 }
abbrev Y_X8_sends : zY := (yX8_sends, cX8_sends, 6, (some .boolean), [])
abbrev R_X8_sends : Room := { frames := 3, cells := 0, slots := 0, locals := 64 }
abbrev Y_X8_dropFirst : zY := (yX8_dropFirst, cX8_dropFirst, 2, none, [])
abbrev R_X8_dropFirst : Room := { frames := 1, cells := 0, slots := 0, locals := 20 }
abbrev Y_X8_refusalOf : zY := (yX8_refusalOf, cX8_refusalOf, 5, (some .int), [])
abbrev R_X8_refusalOf : Room := { frames := 4, cells := 0, slots := 0, locals := 88 }
abbrev Y_X8_delivers : zY := (yX8_delivers, cX8_delivers, 7, (some .boolean), [])
abbrev R_X8_delivers : Room := { frames := 6, cells := 0, slots := 0, locals := 136 }
abbrev Y_X8_deliverAll : zY := (yX8_deliverAll, cX8_deliverAll, 4, (some .int), [])
abbrev R_X8_deliverAll : Room := { frames := 7, cells := 0, slots := 0, locals := 162 }
abbrev Y_X8_doPass : zY := (yX8_doPass, cX8_doPass, 6, (some .int), [])
abbrev R_X8_doPass : Room := { frames := 3, cells := 0, slots := 0, locals := 64 }
abbrev Y_X8_trustInVia : zY := (yX8_trustInVia, cX8_trustInVia, 3, (some .int), [])
abbrev R_X8_trustInVia : Room := { frames := 4, cells := 0, slots := 0, locals := 86 }
abbrev Y_X8_isOut : zY := (yX8_isOut, cX8_isOut, 3, (some .boolean), [])
abbrev R_X8_isOut : Room := { frames := 5, cells := 0, slots := 0, locals := 108 }
abbrev Y_X8_movedBy : zY := (yX8_movedBy, cX8_movedBy, 4, (some .int), [])
abbrev R_X8_movedBy : Room := { frames := 5, cells := 0, slots := 0, locals := 108 }
abbrev Y_X8_isAhead : zY := (yX8_isAhead, cX8_isAhead, 6, (some .boolean), [])
abbrev R_X8_isAhead : Room := { frames := 5, cells := 0, slots := 0, locals := 108 }
abbrev Y_X8_nextReport : zY := (yX8_nextReport, cX8_nextReport, 4, (some .int), [])
abbrev R_X8_nextReport : Room := { frames := 6, cells := 0, slots := 0, locals := 133 }
abbrev Y_X8_layBelief : zY := (yX8_layBelief, cX8_layBelief, 6, none, [])
abbrev R_X8_layBelief : Room := { frames := 7, cells := 0, slots := 0, locals := 156 }
abbrev Y_X8_widthOf : zY := (yX8_widthOf, cX8_widthOf, 3, (some .int), [])
abbrev R_X8_widthOf : Room := { frames := 8, cells := 0, slots := 0, locals := 181 }
abbrev Y_X8_valueOf : zY := (yX8_valueOf, cX8_valueOf, 4, (some .int), [])
abbrev R_X8_valueOf : Room := { frames := 8, cells := 0, slots := 0, locals := 181 }
abbrev Y_X8_bestOf : zY := (yX8_bestOf, cX8_bestOf, 7, (some .int), [])
abbrev R_X8_bestOf : Room := { frames := 9, cells := 0, slots := 0, locals := 204 }
abbrev Y_X8_rivalsOf : zY := (yX8_rivalsOf, cX8_rivalsOf, 5, (some .int), [])
abbrev R_X8_rivalsOf : Room := { frames := 10, cells := 0, slots := 0, locals := 230 }
abbrev Y_X8_originsWith : zY := (yX8_originsWith, cX8_originsWith, 6, (some .int), [])
abbrev R_X8_originsWith : Room := { frames := 8, cells := 0, slots := 0, locals := 181 }
abbrev Y_X8_keepAside : zY := (yX8_keepAside, cX8_keepAside, 2, none, [])
abbrev R_X8_keepAside : Room := { frames := 0, cells := 0, slots := 0, locals := 0 }
abbrev Y_X8_layBack : zY := (yX8_layBack, cX8_layBack, 3, (some .int), [])
abbrev R_X8_layBack : Room := { frames := 0, cells := 0, slots := 0, locals := 0 }
abbrev Y_X8_appendFour : zY := (yX8_appendFour, cX8_appendFour, 3, none, [])
abbrev R_X8_appendFour : Room := { frames := 0, cells := 0, slots := 0, locals := 0 }
abbrev Y_X8_append : zY := (yX8_append, cX8_append, 6, (some .int), [])
abbrev R_X8_append : Room := { frames := 2, cells := 0, slots := 0, locals := 44 }
abbrev Y_X8_truncate : zY := (yX8_truncate, cX8_truncate, 2, none, [])
abbrev R_X8_truncate : Room := { frames := 2, cells := 0, slots := 0, locals := 44 }
abbrev Y_X8_good : zY := (yX8_good, cX8_good, 1, (some .boolean), [])
abbrev R_X8_good : Room := { frames := 0, cells := 0, slots := 0, locals := 0 }
abbrev Y_X8_errs : zY := (yX8_errs, cX8_errs, 2, none, [])
abbrev R_X8_errs : Room := { frames := 1, cells := 0, slots := 0, locals := 20 }
abbrev Y_X8_byteAt : zY := (yX8_byteAt, cX8_byteAt, 2, (some .int), [])
abbrev R_X8_byteAt : Room := { frames := 0, cells := 0, slots := 0, locals := 0 }
abbrev Y_X8_scan : zY := (yX8_scan, cX8_scan, 2, none, [])
abbrev R_X8_scan : Room := { frames := 1, cells := 0, slots := 0, locals := 25 }
abbrev Y_X8_goOn : zY := (yX8_goOn, cX8_goOn, 1, none, [])
abbrev R_X8_goOn : Room := { frames := 2, cells := 0, slots := 0, locals := 46 }
abbrev Y_X8_isWord : zY := (yX8_isWord, cX8_isWord, 4, (some .boolean), [])
abbrev R_X8_isWord : Room := { frames := 5, cells := 0, slots := 0, locals := 150 }
abbrev Y_X8_number : zY := (yX8_number, cX8_number, 4, (some .int), [])
abbrev R_X8_number : Room := { frames := 3, cells := 0, slots := 0, locals := 66 }
abbrev Y_X8_numberBehind : zY := (yX8_numberBehind, cX8_numberBehind, 4, (some .int), [])
abbrev R_X8_numberBehind : Room := { frames := 6, cells := 0, slots := 0, locals := 173 }
abbrev Y_X8_semicolon : zY := (yX8_semicolon, cX8_semicolon, 1, none, [])
abbrev R_X8_semicolon : Room := { frames := 3, cells := 0, slots := 0, locals := 66 }
abbrev Y_X8_isKeyword : zY := (yX8_isKeyword, cX8_isKeyword, 2, (some .boolean), [])
abbrev R_X8_isKeyword : Room := { frames := 6, cells := 0, slots := 0, locals := 173 }
abbrev Y_X8_nameOf : zY := (yX8_nameOf, cX8_nameOf, 5, (some .int), [])
abbrev R_X8_nameOf : Room := { frames := 0, cells := 0, slots := 0, locals := 0 }
abbrev Y_X8_nameHere : zY := (yX8_nameHere, cX8_nameHere, 1, (some .int), [])
abbrev R_X8_nameHere : Room := { frames := 7, cells := 0, slots := 0, locals := 194 }
abbrev Y_X8_withName : zY := (yX8_withName, cX8_withName, 5, (some .int), [])
abbrev R_X8_withName : Room := { frames := 0, cells := 0, slots := 0, locals := 0 }
abbrev Y_X8_parseRules : zY := (yX8_parseRules, cX8_parseRules, 1, none, [])
abbrev R_X8_parseRules : Room := { frames := 7, cells := 0, slots := 0, locals := 196 }
abbrev Y_X8_parseNew : zY := (yX8_parseNew, cX8_parseNew, 4, none, [])
abbrev R_X8_parseNew : Room := { frames := 8, cells := 0, slots := 0, locals := 214 }
abbrev Y_X8_told : zY := (yX8_told, cX8_told, 5, (some .int), [])
abbrev R_X8_told : Room := { frames := 8, cells := 0, slots := 0, locals := 214 }
abbrev Y_X8_parseLink : zY := (yX8_parseLink, cX8_parseLink, 4, none, [])
abbrev R_X8_parseLink : Room := { frames := 9, cells := 0, slots := 0, locals := 238 }
abbrev Y_X8_parseProbe : zY := (yX8_parseProbe, cX8_parseProbe, 6, none, [])
abbrev R_X8_parseProbe : Room := { frames := 9, cells := 0, slots := 0, locals := 238 }
abbrev Y_X8_parseStatement : zY := (yX8_parseStatement, cX8_parseStatement, 1, none, [])
abbrev R_X8_parseStatement : Room := { frames := 10, cells := 0, slots := 0, locals := 263 }
abbrev Y_X8_remember : zY := (yX8_remember, cX8_remember, 2, none, [])
abbrev R_X8_remember : Room := { frames := 0, cells := 0, slots := 0, locals := 0 }
abbrev Y_X8_load : zY := (yX8_load, cX8_load, 2, (some .int), [])
abbrev R_X8_load : Room := { frames := 11, cells := 0, slots := 0, locals := 283 }
abbrev Y_X8_errorCode : zY := (yX8_errorCode, cX8_errorCode, 1, (some .int), [])
abbrev R_X8_errorCode : Room := { frames := 0, cells := 0, slots := 0, locals := 0 }
abbrev Y_X8_errorPosition : zY := (yX8_errorPosition, cX8_errorPosition, 1, (some .int), [])
abbrev R_X8_errorPosition : Room := { frames := 0, cells := 0, slots := 0, locals := 0 }
abbrev Y_X8_found : zY := (yX8_found, cX8_found, 5, (some .int), [])
abbrev R_X8_found : Room := { frames := 1, cells := 0, slots := 0, locals := 25 }
abbrev Y_X8_findAgent : zY := (yX8_findAgent, cX8_findAgent, 1, (some .int), [])
abbrev R_X8_findAgent : Room := { frames := 2, cells := 0, slots := 0, locals := 49 }
abbrev Y_X8_findWay : zY := (yX8_findWay, cX8_findWay, 1, (some .int), [])
abbrev R_X8_findWay : Room := { frames := 2, cells := 0, slots := 0, locals := 49 }
abbrev Y_X8_neighborsOf : zY := (yX8_neighborsOf, cX8_neighborsOf, 4, (some .int), [])
abbrev R_X8_neighborsOf : Room := { frames := 2, cells := 0, slots := 0, locals := 44 }
abbrev Y_X8_bits : zY := (yX8_bits, cX8_bits, 3, (some .int), [])
abbrev R_X8_bits : Room := { frames := 0, cells := 0, slots := 0, locals := 0 }
abbrev Y_X8_links : zY := (yX8_links, cX8_links, 3, (some .int), [])
abbrev R_X8_links : Room := { frames := 3, cells := 0, slots := 0, locals := 67 }
abbrev Y_X8_property : zY := (yX8_property, cX8_property, 2, (some .int), [])
abbrev R_X8_property : Room := { frames := 4, cells := 0, slots := 0, locals := 89 }
abbrev Y_X8_areAgents : zY := (yX8_areAgents, cX8_areAgents, 3, (some .boolean), [])
abbrev R_X8_areAgents : Room := { frames := 2, cells := 0, slots := 0, locals := 46 }
abbrev Y_X8_trust : zY := (yX8_trust, cX8_trust, 3, (some .int), [])
abbrev R_X8_trust : Room := { frames := 3, cells := 0, slots := 0, locals := 68 }
abbrev Y_X8_neighbors : zY := (yX8_neighbors, cX8_neighbors, 2, (some .int), [])
abbrev R_X8_neighbors : Room := { frames := 3, cells := 0, slots := 0, locals := 67 }
abbrev Y_X8_distance : zY := (yX8_distance, cX8_distance, 7, (some .int), [])
abbrev R_X8_distance : Room := { frames := 3, cells := 0, slots := 0, locals := 68 }
abbrev Y_X8_mostTrusted : zY := (yX8_mostTrusted, cX8_mostTrusted, 4, (some .int), [])
abbrev R_X8_mostTrusted : Room := { frames := 2, cells := 0, slots := 0, locals := 46 }
abbrev Y_X8_standing : zY := (yX8_standing, cX8_standing, 4, (some .float), [])
abbrev R_X8_standing : Room := { frames := 3, cells := 0, slots := 0, locals := 67 }
abbrev Y_X8_account : zY := (yX8_account, cX8_account, 3, (some .int), [])
abbrev R_X8_account : Room := { frames := 2, cells := 0, slots := 0, locals := 46 }
abbrev Y_X8_reports : zY := (yX8_reports, cX8_reports, 2, (some .int), [])
abbrev R_X8_reports : Room := { frames := 2, cells := 0, slots := 0, locals := 46 }
abbrev Y_X8_report : zY := (yX8_report, cX8_report, 4, (some .int), [])
abbrev R_X8_report : Room := { frames := 3, cells := 0, slots := 0, locals := 68 }
abbrev Y_X8_statusAt : zY := (yX8_statusAt, cX8_statusAt, 3, (some .int), [])
abbrev R_X8_statusAt : Room := { frames := 8, cells := 0, slots := 0, locals := 181 }
abbrev Y_X8_status : zY := (yX8_status, cX8_status, 3, (some .int), [])
abbrev R_X8_status : Room := { frames := 9, cells := 0, slots := 0, locals := 203 }
abbrev Y_X8_moved : zY := (yX8_moved, cX8_moved, 4, (some .int), [])
abbrev R_X8_moved : Room := { frames := 6, cells := 0, slots := 0, locals := 131 }
abbrev Y_X8_areThere : zY := (yX8_areThere, cX8_areThere, 3, (some .boolean), [])
abbrev R_X8_areThere : Room := { frames := 2, cells := 0, slots := 0, locals := 46 }
abbrev Y_X8_own : zY := (yX8_own, cX8_own, 3, (some .int), [])
abbrev R_X8_own : Room := { frames := 5, cells := 0, slots := 0, locals := 110 }
abbrev Y_X8_boundOf : zY := (yX8_boundOf, cX8_boundOf, 4, (some .int), [])
abbrev R_X8_boundOf : Room := { frames := 8, cells := 0, slots := 0, locals := 181 }
abbrev Y_X8_belief : zY := (yX8_belief, cX8_belief, 4, (some .int), [])
abbrev R_X8_belief : Room := { frames := 9, cells := 0, slots := 0, locals := 204 }
abbrev Y_X8_sources : zY := (yX8_sources, cX8_sources, 3, (some .int), [])
abbrev R_X8_sources : Room := { frames := 9, cells := 0, slots := 0, locals := 206 }
abbrev Y_X8_contradicted : zY := (yX8_contradicted, cX8_contradicted, 3, (some .int), [])
abbrev R_X8_contradicted : Room := { frames := 9, cells := 0, slots := 0, locals := 206 }
abbrev Y_X8_best : zY := (yX8_best, cX8_best, 3, (some .int), [])
abbrev R_X8_best : Room := { frames := 10, cells := 0, slots := 0, locals := 230 }
abbrev Y_X8_rivals : zY := (yX8_rivals, cX8_rivals, 2, (some .int), [])
abbrev R_X8_rivals : Room := { frames := 11, cells := 0, slots := 0, locals := 254 }
abbrev Y_X8_nextProbe : zY := (yX8_nextProbe, cX8_nextProbe, 7, (some .int), [])
abbrev R_X8_nextProbe : Room := { frames := 11, cells := 0, slots := 0, locals := 254 }
abbrev Y_X8_saved : zY := (yX8_saved, cX8_saved, 4, (some .int), [])
abbrev R_X8_saved : Room := { frames := 9, cells := 0, slots := 0, locals := 203 }
abbrev Y_X8_agreeing : zY := (yX8_agreeing, cX8_agreeing, 6, (some .int), [])
abbrev R_X8_agreeing : Room := { frames := 9, cells := 0, slots := 0, locals := 204 }
abbrev Y_X8_common : zY := (yX8_common, cX8_common, 8, (some .int), [])
abbrev R_X8_common : Room := { frames := 5, cells := 0, slots := 0, locals := 110 }
abbrev Y_X8_message : zY := (yX8_message, cX8_message, 3, (some .int), [])
abbrev R_X8_message : Room := { frames := 5, cells := 0, slots := 0, locals := 112 }
abbrev Y_X8_holding : zY := (yX8_holding, cX8_holding, 7, (some .int), [])
abbrev R_X8_holding : Room := { frames := 6, cells := 0, slots := 0, locals := 131 }
abbrev Y_X8_agreed : zY := (yX8_agreed, cX8_agreed, 8, (some .int), [])
abbrev R_X8_agreed : Room := { frames := 8, cells := 0, slots := 0, locals := 181 }
abbrev Y_X8_majorityOf : zY := (yX8_majorityOf, cX8_majorityOf, 4, (some .int), [])
abbrev R_X8_majorityOf : Room := { frames := 9, cells := 0, slots := 0, locals := 208 }
abbrev Y_X8_majority : zY := (yX8_majority, cX8_majority, 3, (some .int), [])
abbrev R_X8_majority : Room := { frames := 10, cells := 0, slots := 0, locals := 231 }
abbrev Y_X8_majorityBound : zY := (yX8_majorityBound, cX8_majorityBound, 4, (some .int), [])
abbrev R_X8_majorityBound : Room := { frames := 10, cells := 0, slots := 0, locals := 231 }
abbrev Y_X8_regret : zY := (yX8_regret, cX8_regret, 3, (some .int), [])
abbrev R_X8_regret : Room := { frames := 10, cells := 0, slots := 0, locals := 230 }
abbrev Y_X8_reaches : zY := (yX8_reaches, cX8_reaches, 9, (some .boolean), [])
abbrev R_X8_reaches : Room := { frames := 0, cells := 0, slots := 0, locals := 0 }
abbrev Y_X8_bottleneck : zY := (yX8_bottleneck, cX8_bottleneck, 4, (some .int), [])
abbrev R_X8_bottleneck : Room := { frames := 3, cells := 0, slots := 0, locals := 68 }
abbrev Y_X8_spreads : zY := (yX8_spreads, cX8_spreads, 7, (some .int), [])
abbrev R_X8_spreads : Room := { frames := 4, cells := 0, slots := 0, locals := 89 }
abbrev Y_X8_doRelay : zY := (yX8_doRelay, cX8_doRelay, 4, (some .int), [])
abbrev R_X8_doRelay : Room := { frames := 5, cells := 0, slots := 0, locals := 115 }
abbrev Y_X8_doRound : zY := (yX8_doRound, cX8_doRound, 3, (some .int), [])
abbrev R_X8_doRound : Room := { frames := 8, cells := 0, slots := 0, locals := 185 }
abbrev Y_X8_informed : zY := (yX8_informed, cX8_informed, 6, (some .int), [])
abbrev R_X8_informed : Room := { frames := 9, cells := 0, slots := 0, locals := 207 }
abbrev Y_X8_exchange : zY := (yX8_exchange, cX8_exchange, 4, (some .int), [])
abbrev R_X8_exchange : Room := { frames := 9, cells := 0, slots := 0, locals := 207 }
abbrev Y_X8_cleanse : zY := (yX8_cleanse, cX8_cleanse, 4, (some .int), [])
abbrev R_X8_cleanse : Room := { frames := 9, cells := 0, slots := 0, locals := 203 }
abbrev Y_X8_areBounds : zY := (yX8_areBounds, cX8_areBounds, 2, (some .boolean), [])
abbrev R_X8_areBounds : Room := { frames := 1, cells := 0, slots := 0, locals := 25 }
abbrev Y_X8_beliefIf : zY := (yX8_beliefIf, cX8_beliefIf, 7, (some .int), [])
abbrev R_X8_beliefIf : Room := { frames := 9, cells := 0, slots := 0, locals := 204 }
abbrev Y_X8_trustIf : zY := (yX8_trustIf, cX8_trustIf, 7, (some .int), [])
abbrev R_X8_trustIf : Room := { frames := 7, cells := 0, slots := 0, locals := 163 }
abbrev Y_X8_widthAfter : zY := (yX8_widthAfter, cX8_widthAfter, 5, (some .int), [])
abbrev R_X8_widthAfter : Room := { frames := 9, cells := 0, slots := 0, locals := 203 }
abbrev Y_X8_widthBut : zY := (yX8_widthBut, cX8_widthBut, 5, (some .int), [])
abbrev R_X8_widthBut : Room := { frames := 9, cells := 0, slots := 0, locals := 203 }
abbrev Y_X8_widthWithout : zY := (yX8_widthWithout, cX8_widthWithout, 4, (some .int), [])
abbrev R_X8_widthWithout : Room := { frames := 10, cells := 0, slots := 0, locals := 227 }
abbrev Y_X8_mostUseful : zY := (yX8_mostUseful, cX8_mostUseful, 7, (some .int), [])
abbrev R_X8_mostUseful : Room := { frames := 10, cells := 0, slots := 0, locals := 227 }
abbrev Y_X8_bestThen : zY := (yX8_bestThen, cX8_bestThen, 3, (some .int), [])
abbrev R_X8_bestThen : Room := { frames := 10, cells := 0, slots := 0, locals := 230 }
abbrev Y_X8_probe : zY := (yX8_probe, cX8_probe, 5, (some .int), [])
abbrev R_X8_probe : Room := { frames := 7, cells := 0, slots := 0, locals := 163 }
abbrev Y_X8_share : zY := (yX8_share, cX8_share, 4, (some .int), [])
abbrev R_X8_share : Room := { frames := 5, cells := 0, slots := 0, locals := 115 }
abbrev Y_X8_relay : zY := (yX8_relay, cX8_relay, 2, (some .int), [])
abbrev R_X8_relay : Room := { frames := 6, cells := 0, slots := 0, locals := 138 }
abbrev Y_X8_deliver : zY := (yX8_deliver, cX8_deliver, 2, (some .int), [])
abbrev R_X8_deliver : Room := { frames := 8, cells := 0, slots := 0, locals := 185 }
abbrev Y_X8_lose : zY := (yX8_lose, cX8_lose, 1, (some .int), [])
abbrev R_X8_lose : Room := { frames := 2, cells := 0, slots := 0, locals := 44 }
abbrev Y_X8_pass : zY := (yX8_pass, cX8_pass, 2, (some .int), [])
abbrev R_X8_pass : Room := { frames := 4, cells := 0, slots := 0, locals := 89 }
abbrev Y_X8_link : zY := (yX8_link, cX8_link, 5, (some .boolean), [])
abbrev R_X8_link : Room := { frames := 3, cells := 0, slots := 0, locals := 68 }
abbrev Y_X8_setTrust : zY := (yX8_setTrust, cX8_setTrust, 6, (some .int), [])
abbrev R_X8_setTrust : Room := { frames := 3, cells := 0, slots := 0, locals := 68 }
abbrev Y_X8_leastOf : zY := (yX8_leastOf, cX8_leastOf, 1, (some .int), [])
abbrev R_X8_leastOf : Room := { frames := 0, cells := 0, slots := 0, locals := 0 }
abbrev Y_X8_mostOf : zY := (yX8_mostOf, cX8_mostOf, 1, (some .int), [])
abbrev R_X8_mostOf : Room := { frames := 0, cells := 0, slots := 0, locals := 0 }
abbrev Y_X8_setRule : zY := (yX8_setRule, cX8_setRule, 4, (some .int), [])
abbrev R_X8_setRule : Room := { frames := 2, cells := 0, slots := 0, locals := 44 }
abbrev Y_X8_forget : zY := (yX8_forget, cX8_forget, 6, (some .int), [])
abbrev R_X8_forget : Room := { frames := 3, cells := 0, slots := 0, locals := 68 }
abbrev Y_X8_isSlot : zY := (yX8_isSlot, cX8_isSlot, 1, (some .boolean), [])
abbrev R_X8_isSlot : Room := { frames := 1, cells := 0, slots := 0, locals := 25 }
abbrev Y_X8_keep : zY := (yX8_keep, cX8_keep, 3, (some .int), [])
abbrev R_X8_keep : Room := { frames := 2, cells := 0, slots := 0, locals := 45 }
abbrev Y_X8_restore : zY := (yX8_restore, cX8_restore, 3, (some .int), [])
abbrev R_X8_restore : Room := { frames := 2, cells := 0, slots := 0, locals := 45 }
abbrev Y_X8_undo : zY := (yX8_undo, cX8_undo, 2, (some .int), [])
abbrev R_X8_undo : Room := { frames := 2, cells := 0, slots := 0, locals := 44 }
abbrev Y_X8_undoCount : zY := (yX8_undoCount, cX8_undoCount, 1, (some .int), [])
abbrev R_X8_undoCount : Room := { frames := 0, cells := 0, slots := 0, locals := 0 }
abbrev Y_X8_write : zY := (yX8_write, cX8_write, 2, none, [])
abbrev R_X8_write : Room := { frames := 0, cells := 0, slots := 0, locals := 0 }
abbrev Y_X8_writeNumber : zY := (yX8_writeNumber, cX8_writeNumber, 4, none, [])
abbrev R_X8_writeNumber : Room := { frames := 1, cells := 0, slots := 0, locals := 21 }
abbrev Y_X8_writeName : zY := (yX8_writeName, cX8_writeName, 4, none, [])
abbrev R_X8_writeName : Room := { frames := 1, cells := 0, slots := 0, locals := 21 }
abbrev Y_X8_writeBeliefs : zY := (yX8_writeBeliefs, cX8_writeBeliefs, 3, (some .int), [])
abbrev R_X8_writeBeliefs : Room := { frames := 9, cells := 0, slots := 0, locals := 204 }
abbrev Y_X8_writeReports : zY := (yX8_writeReports, cX8_writeReports, 4, (some .int), [])
abbrev R_X8_writeReports : Room := { frames := 9, cells := 0, slots := 0, locals := 203 }
abbrev Y_X8_outputByte : zY := (yX8_outputByte, cX8_outputByte, 2, (some .int), [])
abbrev R_X8_outputByte : Room := { frames := 2, cells := 0, slots := 0, locals := 44 }
theorem oi_X0_3 : zL (.methodLink RX0 3 objectInit) ∧ zL (.instanceMethod objectInit) ∧ zL (.code objectInit ⟨#[0xb1]⟩ 1 none) := ⟨wd_214, wd_207, wd_208⟩
theorem zu_X0 : ∀ w ∈ u_ws RX0 TX0 2, zL w := List.forall_mem_cons.mpr ⟨wd_219, List.forall_mem_cons.mpr ⟨wd_221, fun _ h => nomatch h⟩⟩
theorem fd_X0_9 : zFd RX0 9 0 0 := ⟨(RX0, TX0, 2), rfl, by decide, zu_X0, rfl, Or.inl wd_215⟩
theorem fp_X0_init_9 : zFp Y_X0_init 9 0 0 4 := ⟨(RX0, TX0, 2), tyX0, rfl, tyX0_ok, nmX0, rfl, Or.inr ⟨_, rfl⟩, Or.inr ⟨rfl, rfl, rfl, wd_215⟩⟩
theorem fd_X0_15 : zFd RX0 15 0 1 := ⟨(RX0, TX0, 2), rfl, by decide, zu_X0, rfl, Or.inl wd_217⟩
theorem fp_X0_add_15 : zFp Y_X0_add 15 0 1 0 := ⟨(RX0, TX0, 2), tyX0, rfl, tyX0_ok, nmX0, rfl, rfl, Or.inl rfl⟩
theorem k0_X0_add : zk0 Y_X0_add 1 := ⟨wd_791, wd_178, ⟨by decide, by decide, by decide +kernel⟩, rfl⟩
theorem kl_X0_19 : zkL RX0 19 Y_X0_add := Or.inl wd_788
theorem kV_X0_add : zkV Y_X0_add := ⟨wd_790, wd_46⟩
theorem k0_X0_at : zk0 Y_X0_at 1 := ⟨wd_442, wd_178, ⟨by decide, by decide, by decide +kernel⟩, rfl⟩
theorem kl_X0_24 : zkL RX0 24 Y_X0_at := Or.inl wd_553
theorem kV_X0_at : zkV Y_X0_at := ⟨wd_441, wd_5⟩
theorem oi_X3_3 : zL (.methodLink RX3 3 objectInit) ∧ zL (.instanceMethod objectInit) ∧ zL (.code objectInit ⟨#[0xb1]⟩ 1 none) := ⟨wd_273, wd_207, wd_208⟩
theorem zu_X3 : ∀ w ∈ u_ws RX3 TX3 2, zL w := List.forall_mem_cons.mpr ⟨wd_279, List.forall_mem_cons.mpr ⟨wd_281, fun _ h => nomatch h⟩⟩
theorem fd_X3_9 : zFd RX3 9 3 0 := ⟨(RX3, TX3, 2), rfl, by decide, zu_X3, rfl, Or.inl wd_274⟩
theorem fp_X3_init_9 : zFp Y_X3_init 9 3 0 4 := ⟨(RX3, TX3, 2), tyX3, rfl, tyX3_ok, nmX3, rfl, Or.inr ⟨_, rfl⟩, Or.inr ⟨rfl, rfl, rfl, wd_274⟩⟩
theorem oi_X5_3 : zL (.methodLink RX5 3 objectInit) ∧ zL (.instanceMethod objectInit) ∧ zL (.code objectInit ⟨#[0xb1]⟩ 1 none) := ⟨wd_290, wd_207, wd_208⟩
theorem zu_X5 : ∀ w ∈ u_ws RX5 TX5 2, zL w := List.forall_mem_cons.mpr ⟨wd_296, List.forall_mem_cons.mpr ⟨wd_298, fun _ h => nomatch h⟩⟩
theorem fd_X5_9 : zFd RX5 9 5 0 := ⟨(RX5, TX5, 2), rfl, by decide, zu_X5, rfl, Or.inl wd_291⟩
theorem fp_X5_init_9 : zFp Y_X5_init 9 5 0 4 := ⟨(RX5, TX5, 2), tyX5, rfl, tyX5_ok, nmX5, rfl, Or.inr ⟨_, rfl⟩, Or.inr ⟨rfl, rfl, rfl, wd_291⟩⟩
theorem zu_X1 : ∀ w ∈ u_ws RX1 TX1 9, zL w := List.forall_mem_cons.mpr ⟨wd_333, List.forall_mem_cons.mpr ⟨wd_335, List.forall_mem_cons.mpr ⟨wd_337, List.forall_mem_cons.mpr ⟨wd_339, List.forall_mem_cons.mpr ⟨wd_341, List.forall_mem_cons.mpr ⟨wd_343, List.forall_mem_cons.mpr ⟨wd_345, List.forall_mem_cons.mpr ⟨wd_347, List.forall_mem_cons.mpr ⟨wd_349, fun _ h => nomatch h⟩⟩⟩⟩⟩⟩⟩⟩⟩
theorem fd_X1_9 : zFd RX1 9 1 0 := ⟨(RX1, TX1, 9), rfl, by decide, zu_X1, rfl, Or.inl wd_318⟩
theorem fd_X1_37 : zFd RX1 37 1 5 := ⟨(RX1, TX1, 9), rfl, by decide, zu_X1, rfl, Or.inl wd_327⟩
theorem fd_X1_30 : zFd RX1 30 1 4 := ⟨(RX1, TX1, 9), rfl, by decide, zu_X1, rfl, Or.inl wd_326⟩
theorem fd_X1_41 : zFd RX1 41 1 6 := ⟨(RX1, TX1, 9), rfl, by decide, zu_X1, rfl, Or.inl wd_328⟩
theorem fd_X1_71 : zFd RX1 71 5 1 := ⟨(RX5, TX5, 2), rfl, by decide, zu_X5, rfl, Or.inr ⟨"PathTrust", wd_294⟩⟩
theorem fp_X1_reset_71 : zFp Y_X1_reset 71 5 1 0 := ⟨(RX5, TX5, 2), tyX5, rfl, tyX5_ok, nmX5, rfl, rfl, Or.inl rfl⟩
theorem fd_X1_44 : zFd RX1 44 1 7 := ⟨(RX1, TX1, 9), rfl, by decide, zu_X1, rfl, Or.inl wd_330⟩
theorem fd_X1_72 : zFd RX1 72 1 8 := ⟨(RX1, TX1, 9), rfl, by decide, zu_X1, rfl, Or.inl wd_331⟩
theorem fp_X1_reset_72 : zFp Y_X1_reset 72 1 8 0 := ⟨(RX1, TX1, 9), tyX1, rfl, tyX1_ok, nmX1, rfl, rfl, Or.inl rfl⟩
theorem k0_J7_fill_53178 : zk0 Y_J7_fill_53178 2 := ⟨wd_313, wd_183, ⟨by decide, by decide, by decide +kernel⟩, rfl⟩
theorem kl_X1_61 : zkL RX1 61 Y_J7_fill_53178 := Or.inl wd_311
theorem k0_X1_listOf : zk0 Y_X1_listOf 1 := ⟨wd_317, wd_180, ⟨by decide, by decide, by decide +kernel⟩, rfl⟩
theorem kl_X1_67 : zkL RX1 67 Y_X1_listOf := Or.inl wd_314
theorem kV_X1_listOf : zkV Y_X1_listOf := ⟨wd_316, wd_2⟩
theorem fd_X1_18 : zFd RX1 18 1 1 := ⟨(RX1, TX1, 9), rfl, by decide, zu_X1, rfl, Or.inl wd_319⟩
theorem fd_X1_57 : zFd RX1 57 3 1 := ⟨(RX3, TX3, 2), rfl, by decide, zu_X3, rfl, Or.inr ⟨"PathTrust", wd_276⟩⟩
theorem fp_X1_reset_57 : zFp Y_X1_reset 57 3 1 0 := ⟨(RX3, TX3, 2), tyX3, rfl, tyX3_ok, nmX3, rfl, rfl, Or.inl rfl⟩
theorem fd_X1_22 : zFd RX1 22 1 2 := ⟨(RX1, TX1, 9), rfl, by decide, zu_X1, rfl, Or.inl wd_322⟩
theorem fd_X1_25 : zFd RX1 25 1 3 := ⟨(RX1, TX1, 9), rfl, by decide, zu_X1, rfl, Or.inl wd_325⟩
theorem k0_X1_putRule : zk0 Y_X1_putRule 2 := ⟨wd_310, wd_180, ⟨by decide, by decide, by decide +kernel⟩, rfl⟩
theorem kl_X1_53 : zkL RX1 53 Y_X1_putRule := Or.inl wd_307
theorem kV_X1_putRule : zkV Y_X1_putRule := ⟨wd_309, wd_1⟩
theorem k0_X1_reset : zk0 Y_X1_reset 0 := ⟨wd_304, wd_180, ⟨by decide, by decide, by decide +kernel⟩, rfl⟩
theorem kl_X1_47 : zkL RX1 47 Y_X1_reset := Or.inl wd_301
theorem kV_X1_reset : zkV Y_X1_reset := ⟨wd_303, wd_0⟩
theorem df_X5 : (∀ j, j < 2 → defaultValue (tyX5 j) = if zfe 5 j = 4 then .null else .int 0) ∧ ∀ j, j < 2 → zfe 5 j = 0 ∨ zfe 5 j = 4 := ⟨fun j hj => by
    rcases (show j = 0 ∨ j = 1 by omega) with rfl | rfl <;> rfl,
  by decide⟩
theorem nw_X1_28 : zNw RX1 28 5 := ⟨(RX5, TX5, 2), tyX5, rfl, zu_X5, tyX5_ok, wd_284, wd_286, wd_182, df_X5.1, df_X5.2⟩
theorem k0_X5_init : zk0 Y_X5_init 1 := ⟨wd_289, wd_182, ⟨by decide, by decide, by decide +kernel⟩, rfl⟩
theorem kl_X1_34 : zkL RX1 34 Y_X5_init := Or.inr ⟨"PathTrust", wd_287⟩
theorem kI_X5_init : (Y_X5_init).1.name = "<init>" ∧ zL (.instanceMethod (Y_X5_init).1) ∧ (Y_X5_init).2.2.2.1 = none := ⟨rfl, wd_288, rfl⟩
theorem oi_X1_3 : zL (.methodLink RX1 3 objectInit) ∧ zL (.instanceMethod objectInit) ∧ zL (.code objectInit ⟨#[0xb1]⟩ 1 none) := ⟨wd_267, wd_207, wd_208⟩
theorem fp_X1_init_9 : zFp Y_X1_init 9 1 0 4 := ⟨(RX1, TX1, 9), tyX1, rfl, tyX1_ok, nmX1, rfl, Or.inr ⟨_, rfl⟩, Or.inr ⟨rfl, rfl, rfl, wd_318⟩⟩
theorem df_X3 : (∀ j, j < 2 → defaultValue (tyX3 j) = if zfe 3 j = 4 then .null else .int 0) ∧ ∀ j, j < 2 → zfe 3 j = 0 ∨ zfe 3 j = 4 := ⟨fun j hj => by
    rcases (show j = 0 ∨ j = 1 by omega) with rfl | rfl <;> rfl,
  by decide⟩
theorem nw_X1_15 : zNw RX1 15 3 := ⟨(RX3, TX3, 2), tyX3, rfl, zu_X3, tyX3_ok, wd_268, wd_269, wd_181, df_X3.1, df_X3.2⟩
theorem fp_X1_init_18 : zFp Y_X1_init 18 1 1 4 := ⟨(RX1, TX1, 9), tyX1, rfl, tyX1_ok, nmX1, rfl, Or.inl ⟨_, rfl⟩, Or.inr ⟨rfl, rfl, rfl, wd_319⟩⟩
theorem fp_X1_init_22 : zFp Y_X1_init 22 1 2 4 := ⟨(RX1, TX1, 9), tyX1, rfl, tyX1_ok, nmX1, rfl, Or.inl ⟨_, rfl⟩, Or.inr ⟨rfl, rfl, rfl, wd_322⟩⟩
theorem fp_X1_init_25 : zFp Y_X1_init 25 1 3 4 := ⟨(RX1, TX1, 9), tyX1, rfl, tyX1_ok, nmX1, rfl, Or.inr ⟨_, rfl⟩, Or.inr ⟨rfl, rfl, rfl, wd_325⟩⟩
theorem fp_X1_init_30 : zFp Y_X1_init 30 1 4 4 := ⟨(RX1, TX1, 9), tyX1, rfl, tyX1_ok, nmX1, rfl, Or.inr ⟨_, rfl⟩, Or.inr ⟨rfl, rfl, rfl, wd_326⟩⟩
theorem fp_X1_init_37 : zFp Y_X1_init 37 1 5 4 := ⟨(RX1, TX1, 9), tyX1, rfl, tyX1_ok, nmX1, rfl, Or.inl ⟨_, rfl⟩, Or.inr ⟨rfl, rfl, rfl, wd_327⟩⟩
theorem fp_X1_init_41 : zFp Y_X1_init 41 1 6 4 := ⟨(RX1, TX1, 9), tyX1, rfl, tyX1_ok, nmX1, rfl, Or.inl ⟨_, rfl⟩, Or.inr ⟨rfl, rfl, rfl, wd_328⟩⟩
theorem fp_X1_init_44 : zFp Y_X1_init 44 1 7 4 := ⟨(RX1, TX1, 9), tyX1, rfl, tyX1_ok, nmX1, rfl, Or.inr ⟨_, rfl⟩, Or.inr ⟨rfl, rfl, rfl, wd_330⟩⟩
theorem k0_X3_init : zk0 Y_X3_init 0 := ⟨wd_272, wd_181, ⟨by decide, by decide, by decide +kernel⟩, rfl⟩
theorem kl_X1_17 : zkL RX1 17 Y_X3_init := Or.inr ⟨"PathTrust", wd_270⟩
theorem kI_X3_init : (Y_X3_init).1.name = "<init>" ∧ zL (.instanceMethod (Y_X3_init).1) ∧ (Y_X3_init).2.2.2.1 = none := ⟨rfl, wd_271, rfl⟩
theorem fd_X3_15 : zFd RX3 15 3 1 := ⟨(RX3, TX3, 2), rfl, by decide, zu_X3, rfl, Or.inl wd_275⟩
theorem fp_X3_copyFrom_15 : zFp Y_X3_copyFrom 15 3 1 0 := ⟨(RX3, TX3, 2), tyX3, rfl, tyX3_ok, nmX3, rfl, rfl, Or.inl rfl⟩
theorem mq_X3_19 : zL (.methodLink RX3 19 Lib.Math.min.name) ∧ zL (.static Lib.Math.min.name) ∧ zL (.initialized "java/lang/Math") ∧ zL (.code Lib.Math.min.name Lib.Math.min.code 2 (some .int)) := ⟨wd_674, wd_525, wd_196, wd_526⟩
theorem ac_X3_25 : zL (.methodLink RX3 25 arraycopyName) ∧ zL (.native arraycopyName) ∧ zL (.static arraycopyName) ∧ zL (.initialized "java/lang/System") := ⟨wd_675, wd_608, wd_607, wd_197⟩
theorem fd_X5_15 : zFd RX5 15 5 1 := ⟨(RX5, TX5, 2), rfl, by decide, zu_X5, rfl, Or.inl wd_292⟩
theorem mq_X5_39 : zL (.methodLink RX5 39 Lib.Math.min.name) ∧ zL (.static Lib.Math.min.name) ∧ zL (.initialized "java/lang/Math") ∧ zL (.code Lib.Math.min.name Lib.Math.min.code 2 (some .int)) := ⟨wd_654, wd_525, wd_196, wd_526⟩
theorem fp_X5_copyFrom_15 : zFp Y_X5_copyFrom 15 5 1 0 := ⟨(RX5, TX5, 2), tyX5, rfl, tyX5_ok, nmX5, rfl, rfl, Or.inl rfl⟩
theorem ac_X5_47 : zL (.methodLink RX5 47 arraycopyName) ∧ zL (.native arraycopyName) ∧ zL (.static arraycopyName) ∧ zL (.initialized "java/lang/System") := ⟨wd_606, wd_608, wd_607, wd_197⟩
theorem mq_X1_83 : zL (.methodLink RX1 83 Lib.Math.min.name) ∧ zL (.static Lib.Math.min.name) ∧ zL (.initialized "java/lang/Math") ∧ zL (.code Lib.Math.min.name Lib.Math.min.code 2 (some .int)) := ⟨wd_655, wd_525, wd_196, wd_526⟩
theorem ac_X1_89 : zL (.methodLink RX1 89 arraycopyName) ∧ zL (.native arraycopyName) ∧ zL (.static arraycopyName) ∧ zL (.initialized "java/lang/System") := ⟨wd_676, wd_608, wd_607, wd_197⟩
theorem fp_X1_become_72 : zFp Y_X1_become 72 1 8 0 := ⟨(RX1, TX1, 9), tyX1, rfl, tyX1_ok, nmX1, rfl, rfl, Or.inl rfl⟩
theorem k0_X5_copyFrom : zk0 Y_X5_copyFrom 1 := ⟨wd_680, wd_182, ⟨by decide, by decide, by decide +kernel⟩, rfl⟩
theorem kl_X1_95 : zkL RX1 95 Y_X5_copyFrom := Or.inr ⟨"PathTrust", wd_677⟩
theorem kV_X5_copyFrom : zkV Y_X5_copyFrom := ⟨wd_679, wd_42⟩
theorem k0_X3_copyFrom : zk0 Y_X3_copyFrom 1 := ⟨wd_673, wd_181, ⟨by decide, by decide, by decide +kernel⟩, rfl⟩
theorem kl_X1_79 : zkL RX1 79 Y_X3_copyFrom := Or.inr ⟨"PathTrust", wd_670⟩
theorem kV_X3_copyFrom : zkV Y_X3_copyFrom := ⟨wd_672, wd_41⟩
theorem k0_X1_rule : zk0 Y_X1_rule 1 := ⟨wd_641, wd_180, ⟨by decide, by decide, by decide +kernel⟩, rfl⟩
theorem kl_X1_75 : zkL RX1 75 Y_X1_rule := Or.inl wd_638
theorem kV_X1_rule : zkV Y_X1_rule := ⟨wd_640, wd_35⟩
theorem k0_X1_trustIn : zk0 Y_X1_trustIn 2 := ⟨wd_577, wd_180, ⟨by decide, by decide, by decide +kernel⟩, rfl⟩
theorem kl_X1_98 : zkL RX1 98 Y_X1_trustIn := Or.inl wd_574
theorem kV_X1_trustIn : zkV Y_X1_trustIn := ⟨wd_576, wd_21⟩
theorem k0_X1_isLinked : zk0 Y_X1_isLinked 2 := ⟨wd_573, wd_180, ⟨by decide, by decide, by decide +kernel⟩, rfl⟩
theorem kl_X1_101 : zkL RX1 101 Y_X1_isLinked := Or.inl wd_633
theorem kV_X1_isLinked : zkV Y_X1_isLinked := ⟨wd_572, wd_20⟩
theorem k0_X7_contains : zk0 Y_X7_contains 2 := ⟨wd_877, wd_177, ⟨by decide, by decide, by decide +kernel⟩, rfl⟩
theorem kl_X1_105 : zkL RX1 105 Y_X7_contains := Or.inr ⟨"PathTrust", wd_882⟩
theorem k0_X1_accountPlace : zk0 Y_X1_accountPlace 2 := ⟨wd_627, wd_180, ⟨by decide, by decide, by decide +kernel⟩, rfl⟩
theorem kl_X1_108 : zkL RX1 108 Y_X1_accountPlace := Or.inl wd_625
theorem k0_X5_get : zk0 Y_X5_get 2 := ⟨wd_597, wd_182, ⟨by decide, by decide, by decide +kernel⟩, rfl⟩
theorem kl_X1_111 : zkL RX1 111 Y_X5_get := Or.inr ⟨"PathTrust", wd_628⟩
theorem kV_X5_get : zkV Y_X5_get := ⟨wd_596, wd_26⟩
theorem k0_X1_driftOf : zk0 Y_X1_driftOf 2 := ⟨wd_637, wd_180, ⟨by decide, by decide, by decide +kernel⟩, rfl⟩
theorem kl_X1_114 : zkL RX1 114 Y_X1_driftOf := Or.inl wd_634
theorem kV_X1_driftOf : zkV Y_X1_driftOf := ⟨wd_636, wd_34⟩
theorem kl_X5_19 : zkL RX5 19 Y_X5_get := Or.inl wd_594
theorem fp_X5_closeGap_15 : zFp Y_X5_closeGap 15 5 1 0 := ⟨(RX5, TX5, 2), tyX5, rfl, tyX5_ok, nmX5, rfl, rfl, Or.inl rfl⟩
theorem k0_X5_closeGap : zk0 Y_X5_closeGap 2 := ⟨wd_605, wd_182, ⟨by decide, by decide, by decide +kernel⟩, rfl⟩
theorem kl_X5_35 : zkL RX5 35 Y_X5_closeGap := Or.inl wd_602
theorem kV_X5_closeGap : zkV Y_X5_closeGap := ⟨wd_604, wd_28⟩
theorem fp_X5_addRow_15 : zFp Y_X5_addRow 15 5 1 0 := ⟨(RX5, TX5, 2), tyX5, rfl, tyX5_ok, nmX5, rfl, rfl, Or.inl rfl⟩
theorem k0_X5_isFull : zk0 Y_X5_isFull 0 := ⟨wd_616, wd_182, ⟨by decide, by decide, by decide +kernel⟩, rfl⟩
theorem kl_X5_23 : zkL RX5 23 Y_X5_isFull := Or.inl wd_613
theorem kV_X5_isFull : zkV Y_X5_isFull := ⟨wd_615, wd_30⟩
theorem mq_X5_44 : zL (.methodLink RX5 44 Lib.Math.max.name) ∧ zL (.static Lib.Math.max.name) ∧ zL (.initialized "java/lang/Math") ∧ zL (.code Lib.Math.max.name Lib.Math.max.code 2 (some .int)) := ⟨wd_646, wd_647, wd_196, wd_648⟩
theorem k0_X1_tally : zk0 Y_X1_tally 2 := ⟨wd_624, wd_180, ⟨by decide, by decide, by decide +kernel⟩, rfl⟩
theorem kl_X1_132 : zkL RX1 132 Y_X1_tally := Or.inl wd_621
theorem kV_X1_tally : zkV Y_X1_tally := ⟨wd_623, wd_32⟩
theorem mq_X1_142 : zL (.methodLink RX1 142 Lib.Math.max.name) ∧ zL (.static Lib.Math.max.name) ∧ zL (.initialized "java/lang/Math") ∧ zL (.code Lib.Math.max.name Lib.Math.max.code 2 (some .int)) := ⟨wd_649, wd_647, wd_196, wd_648⟩
theorem k0_X1_putTrust : zk0 Y_X1_putTrust 3 := ⟨wd_581, wd_180, ⟨by decide, by decide, by decide +kernel⟩, rfl⟩
theorem kl_X1_148 : zkL RX1 148 Y_X1_putTrust := Or.inl wd_656
theorem kV_X1_putTrust : zkV Y_X1_putTrust := ⟨wd_580, wd_22⟩
theorem k0_X5_highMoved : zk0 Y_X5_highMoved 2 := ⟨wd_653, wd_182, ⟨by decide, by decide, by decide +kernel⟩, rfl⟩
theorem kl_X1_145 : zkL RX1 145 Y_X5_highMoved := Or.inr ⟨"PathTrust", wd_650⟩
theorem kV_X5_highMoved : zkV Y_X5_highMoved := ⟨wd_652, wd_37⟩
theorem k0_X5_lowMoved : zk0 Y_X5_lowMoved 2 := ⟨wd_645, wd_182, ⟨by decide, by decide, by decide +kernel⟩, rfl⟩
theorem kl_X1_139 : zkL RX1 139 Y_X5_lowMoved := Or.inr ⟨"PathTrust", wd_642⟩
theorem kV_X5_lowMoved : zkV Y_X5_lowMoved := ⟨wd_644, wd_36⟩
theorem k0_X1_judge : zk0 Y_X1_judge 3 := ⟨wd_632, wd_180, ⟨by decide, by decide, by decide +kernel⟩, rfl⟩
theorem kl_X1_135 : zkL RX1 135 Y_X1_judge := Or.inl wd_629
theorem kV_X1_judge : zkV Y_X1_judge := ⟨wd_631, wd_33⟩
theorem k0_X5_put : zk0 Y_X5_put 3 := ⟨wd_620, wd_182, ⟨by decide, by decide, by decide +kernel⟩, rfl⟩
theorem kl_X1_128 : zkL RX1 128 Y_X5_put := Or.inr ⟨"PathTrust", wd_617⟩
theorem kV_X5_put : zkV Y_X5_put := ⟨wd_619, wd_31⟩
theorem k0_X5_addRow : zk0 Y_X5_addRow 0 := ⟨wd_612, wd_182, ⟨by decide, by decide, by decide +kernel⟩, rfl⟩
theorem kl_X1_124 : zkL RX1 124 Y_X5_addRow := Or.inr ⟨"PathTrust", wd_609⟩
theorem kV_X5_addRow : zkV Y_X5_addRow := ⟨wd_611, wd_29⟩
theorem k0_X5_removeRow : zk0 Y_X5_removeRow 1 := ⟨wd_601, wd_182, ⟨by decide, by decide, by decide +kernel⟩, rfl⟩
theorem kl_X1_121 : zkL RX1 121 Y_X5_removeRow := Or.inr ⟨"PathTrust", wd_598⟩
theorem kV_X5_removeRow : zkV Y_X5_removeRow := ⟨wd_600, wd_27⟩
theorem k0_X5_rowOf : zk0 Y_X5_rowOf 2 := ⟨wd_593, wd_182, ⟨by decide, by decide, by decide +kernel⟩, rfl⟩
theorem kl_X1_118 : zkL RX1 118 Y_X5_rowOf := Or.inr ⟨"PathTrust", wd_590⟩
theorem kV_X5_rowOf : zkV Y_X5_rowOf := ⟨wd_592, wd_25⟩
theorem kl_X5_31 : zkL RX5 31 Y_X5_put := Or.inl wd_1211
theorem kl_X5_27 : zkL RX5 27 Y_X5_addRow := Or.inl wd_1210
theorem k0_X5_addCopy : zk0 Y_X5_addCopy 2 := ⟨wd_1209, wd_182, ⟨by decide, by decide, by decide +kernel⟩, rfl⟩
theorem kl_X1_159 : zkL RX1 159 Y_X5_addCopy := Or.inr ⟨"PathTrust", wd_1206⟩
theorem kV_X5_addCopy : zkV Y_X5_addCopy := ⟨wd_1208, wd_75⟩
theorem kl_X1_155 : zkL RX1 155 Y_X5_isFull := Or.inr ⟨"PathTrust", wd_1205⟩
theorem k0_X1_sendReport : zk0 Y_X1_sendReport 3 := ⟨wd_1204, wd_180, ⟨by decide, by decide, by decide +kernel⟩, rfl⟩
theorem kl_X1_151 : zkL RX1 151 Y_X1_sendReport := Or.inl wd_1201
theorem kV_X1_sendReport : zkV Y_X1_sendReport := ⟨wd_1203, wd_74⟩
theorem k0_X1_isTooOld : zk0 Y_X1_isTooOld 2 := ⟨wd_1160, wd_180, ⟨by decide, by decide, by decide +kernel⟩, rfl⟩
theorem kl_X1_162 : zkL RX1 162 Y_X1_isTooOld := Or.inl wd_1157
theorem kV_X1_isTooOld : zkV Y_X1_isTooOld := ⟨wd_1159, wd_71⟩
theorem k0_X1_reasonToRefuse : zk0 Y_X1_reasonToRefuse 1 := ⟨wd_1156, wd_180, ⟨by decide, by decide, by decide +kernel⟩, rfl⟩
theorem kl_X1_173 : zkL RX1 173 Y_X1_reasonToRefuse := Or.inl wd_1220
theorem kV_X1_reasonToRefuse : zkV Y_X1_reasonToRefuse := ⟨wd_1155, wd_70⟩
theorem k0_X5_removeFirst : zk0 Y_X5_removeFirst 1 := ⟨wd_1224, wd_182, ⟨by decide, by decide, by decide +kernel⟩, rfl⟩
theorem kl_X1_170 : zkL RX1 170 Y_X5_removeFirst := Or.inr ⟨"PathTrust", wd_1221⟩
theorem kV_X5_removeFirst : zkV Y_X5_removeFirst := ⟨wd_1223, wd_78⟩
theorem k0_X1_receive : zk0 Y_X1_receive 1 := ⟨wd_1219, wd_180, ⟨by decide, by decide, by decide +kernel⟩, rfl⟩
theorem kl_X1_166 : zkL RX1 166 Y_X1_receive := Or.inl wd_1216
theorem kV_X1_receive : zkV Y_X1_receive := ⟨wd_1218, wd_77⟩
theorem k0_X1_deliverFirst : zk0 Y_X1_deliverFirst 1 := ⟨wd_1215, wd_180, ⟨by decide, by decide, by decide +kernel⟩, rfl⟩
theorem kl_X1_179 : zkL RX1 179 Y_X1_deliverFirst := Or.inl wd_1212
theorem kV_X1_deliverFirst : zkV Y_X1_deliverFirst := ⟨wd_1214, wd_76⟩
theorem k0_X1_sendReports : zk0 Y_X1_sendReports 2 := ⟨wd_1200, wd_180, ⟨by decide, by decide, by decide +kernel⟩, rfl⟩
theorem kl_X1_176 : zkL RX1 176 Y_X1_sendReports := Or.inl wd_1197
theorem kV_X1_sendReports : zkV Y_X1_sendReports := ⟨wd_1199, wd_73⟩
theorem fp_X1_letPass_72 : zFp Y_X1_letPass 72 1 8 0 := ⟨(RX1, TX1, 9), tyX1, rfl, tyX1_ok, nmX1, rfl, rfl, Or.inl rfl⟩
theorem oi_X2_3 : zL (.methodLink RX2 3 objectInit) ∧ zL (.instanceMethod objectInit) ∧ zL (.code objectInit ⟨#[0xb1]⟩ 1 none) := ⟨wd_390, wd_207, wd_208⟩
theorem zu_X2 : ∀ w ∈ u_ws RX2 TX2 2, zL w := List.forall_mem_cons.mpr ⟨wd_396, List.forall_mem_cons.mpr ⟨wd_398, fun _ h => nomatch h⟩⟩
theorem fd_X2_11 : zFd RX2 11 2 0 := ⟨(RX2, TX2, 2), rfl, by decide, zu_X2, rfl, Or.inl wd_393⟩
theorem fp_X2_init_11 : zFp Y_X2_init 11 2 0 4 := ⟨(RX2, TX2, 2), tyX2, rfl, tyX2_ok, nmX2, rfl, Or.inr ⟨_, rfl⟩, Or.inr ⟨rfl, rfl, rfl, wd_393⟩⟩
theorem fd_X2_17 : zFd RX2 17 2 1 := ⟨(RX2, TX2, 2), rfl, by decide, zu_X2, rfl, Or.inl wd_394⟩
theorem fp_X2_dropOldest_17 : zFp Y_X2_dropOldest 17 2 1 0 := ⟨(RX2, TX2, 2), tyX2, rfl, tyX2_ok, nmX2, rfl, rfl, Or.inl rfl⟩
theorem fp_X2_push_17 : zFp Y_X2_push 17 2 1 0 := ⟨(RX2, TX2, 2), tyX2, rfl, tyX2_ok, nmX2, rfl, rfl, Or.inl rfl⟩
theorem k0_X1_become : zk0 Y_X1_become 1 := ⟨wd_669, wd_180, ⟨by decide, by decide, by decide +kernel⟩, rfl⟩
theorem kl_X2_25 : zkL RX2 25 Y_X1_become := Or.inr ⟨"PathTrust", wd_666⟩
theorem kV_X1_become : zkV Y_X1_become := ⟨wd_668, wd_40⟩
theorem df_X1 : (∀ j, j < 9 → defaultValue (tyX1 j) = if zfe 1 j = 4 then .null else .int 0) ∧ ∀ j, j < 9 → zfe 1 j = 0 ∨ zfe 1 j = 4 := ⟨fun j hj => by
    rcases (show j = 0 ∨ j = 1 ∨ j = 2 ∨ j = 3 ∨ j = 4 ∨ j = 5 ∨ j = 6 ∨ j = 7 ∨ j = 8 by omega) with rfl | rfl | rfl | rfl | rfl | rfl | rfl | rfl | rfl <;> rfl,
  by decide⟩
theorem nw_X2_9 : zNw RX2 9 1 := ⟨(RX1, TX1, 9), tyX1, rfl, zu_X1, tyX1_ok, wd_391, wd_263, wd_180, df_X1.1, df_X1.2⟩
theorem k0_X1_init : zk0 Y_X1_init 0 := ⟨wd_266, wd_180, ⟨by decide, by decide, by decide +kernel⟩, rfl⟩
theorem kl_X2_24 : zkL RX2 24 Y_X1_init := Or.inr ⟨"PathTrust", wd_665⟩
theorem kI_X1_init : (Y_X1_init).1.name = "<init>" ∧ zL (.instanceMethod (Y_X1_init).1) ∧ (Y_X1_init).2.2.2.1 = none := ⟨rfl, wd_265, rfl⟩
theorem k0_X2_dropOldest : zk0 Y_X2_dropOldest 0 := ⟨wd_664, wd_185, ⟨by decide, by decide, by decide +kernel⟩, rfl⟩
theorem kl_X2_21 : zkL RX2 21 Y_X2_dropOldest := Or.inl wd_661
theorem kV_X2_dropOldest : zkV Y_X2_dropOldest := ⟨wd_663, wd_39⟩
theorem fp_X2_pop_17 : zFp Y_X2_pop 17 2 1 0 := ⟨(RX2, TX2, 2), tyX2, rfl, tyX2_ok, nmX2, rfl, rfl, Or.inl rfl⟩
theorem fp_X3_add_15 : zFp Y_X3_add 15 3 1 0 := ⟨(RX3, TX3, 2), tyX3, rfl, tyX3_ok, nmX3, rfl, rfl, Or.inl rfl⟩
theorem oi_X4_3 : zL (.methodLink RX4 3 objectInit) ∧ zL (.instanceMethod objectInit) ∧ zL (.code objectInit ⟨#[0xb1]⟩ 1 none) := ⟨wd_357, wd_207, wd_208⟩
theorem zu_X4 : ∀ w ∈ u_ws RX4 TX4 8, zL w := List.forall_mem_cons.mpr ⟨wd_368, List.forall_mem_cons.mpr ⟨wd_370, List.forall_mem_cons.mpr ⟨wd_372, List.forall_mem_cons.mpr ⟨wd_374, List.forall_mem_cons.mpr ⟨wd_376, List.forall_mem_cons.mpr ⟨wd_378, List.forall_mem_cons.mpr ⟨wd_380, List.forall_mem_cons.mpr ⟨wd_382, fun _ h => nomatch h⟩⟩⟩⟩⟩⟩⟩⟩
theorem fd_X4_9 : zFd RX4 9 4 7 := ⟨(RX4, TX4, 8), rfl, by decide, zu_X4, rfl, Or.inl wd_366⟩
theorem fp_X4_init_9 : zFp Y_X4_init 9 4 7 0 := ⟨(RX4, TX4, 8), tyX4, rfl, tyX4_ok, nmX4, rfl, rfl, Or.inl rfl⟩
theorem fd_X4_15 : zFd RX4 15 4 0 := ⟨(RX4, TX4, 8), rfl, by decide, zu_X4, rfl, Or.inl wd_358⟩
theorem fp_X4_init_15 : zFp Y_X4_init 15 4 0 4 := ⟨(RX4, TX4, 8), tyX4, rfl, tyX4_ok, nmX4, rfl, Or.inl ⟨_, rfl⟩, Or.inr ⟨rfl, rfl, rfl, wd_358⟩⟩
theorem fd_X4_19 : zFd RX4 19 4 1 := ⟨(RX4, TX4, 8), rfl, by decide, zu_X4, rfl, Or.inl wd_359⟩
theorem fp_X4_init_19 : zFp Y_X4_init 19 4 1 4 := ⟨(RX4, TX4, 8), tyX4, rfl, tyX4_ok, nmX4, rfl, Or.inl ⟨_, rfl⟩, Or.inr ⟨rfl, rfl, rfl, wd_359⟩⟩
theorem fd_X4_41 : zFd RX4 41 4 2 := ⟨(RX4, TX4, 8), rfl, by decide, zu_X4, rfl, Or.inl wd_360⟩
theorem fd_X4_23 : zFd RX4 23 4 4 := ⟨(RX4, TX4, 8), rfl, by decide, zu_X4, rfl, Or.inl wd_362⟩
theorem fd_X4_176 : zFd RX4 176 0 1 := ⟨(RX0, TX0, 2), rfl, by decide, zu_X0, rfl, Or.inr ⟨"PathTrust", wd_218⟩⟩
theorem fp_X4_next_23 : zFp Y_X4_next 23 4 4 0 := ⟨(RX4, TX4, 8), tyX4, rfl, tyX4_ok, nmX4, rfl, rfl, Or.inl rfl⟩
theorem k0_X4_kindOf : zk0 Y_X4_kindOf 1 := ⟨wd_445, wd_184, ⟨by decide, by decide, by decide +kernel⟩, rfl⟩
theorem kl_X4_178 : zkL RX4 178 Y_X4_kindOf := Or.inl wd_443
theorem kl_X4_158 : zkL RX4 158 Y_X0_at := Or.inr ⟨"PathTrust", wd_439⟩
theorem fd_X4_125 : zFd RX4 125 4 3 := ⟨(RX4, TX4, 8), rfl, by decide, zu_X4, rfl, Or.inl wd_361⟩
theorem fp_X4_next_41 : zFp Y_X4_next 41 4 2 0 := ⟨(RX4, TX4, 8), tyX4, rfl, tyX4_ok, nmX4, rfl, rfl, Or.inl rfl⟩
theorem fp_X4_next_125 : zFp Y_X4_next 125 4 3 0 := ⟨(RX4, TX4, 8), tyX4, rfl, tyX4_ok, nmX4, rfl, rfl, Or.inl rfl⟩
theorem sh_X4_172 : zsh RX4 172 := wd_469
theorem sl_X4_166 : zsl RX4 166 := wd_459
theorem fd_X4_26 : zFd RX4 26 4 6 := ⟨(RX4, TX4, 8), rfl, by decide, zu_X4, rfl, Or.inl wd_364⟩
theorem fp_X4_fail_26 : zFp Y_X4_fail 26 4 6 0 := ⟨(RX4, TX4, 8), tyX4, rfl, tyX4_ok, nmX4, rfl, rfl, Or.inl rfl⟩
theorem fp_X4_fail_9 : zFp Y_X4_fail 9 4 7 0 := ⟨(RX4, TX4, 8), tyX4, rfl, tyX4_ok, nmX4, rfl, rfl, Or.inl rfl⟩
theorem k0_X4_next : zk0 Y_X4_next 0 := ⟨wd_438, wd_184, ⟨by decide, by decide, by decide +kernel⟩, rfl⟩
theorem kl_X4_34 : zkL RX4 34 Y_X4_next := Or.inl wd_435
theorem kV_X4_next : zkV Y_X4_next := ⟨wd_437, wd_4⟩
theorem k0_X4_fail : zk0 Y_X4_fail 1 := ⟨wd_510, wd_184, ⟨by decide, by decide, by decide +kernel⟩, rfl⟩
theorem kl_X4_73 : zkL RX4 73 Y_X4_fail := Or.inl wd_507
theorem kV_X4_fail : zkV Y_X4_fail := ⟨wd_509, wd_9⟩
theorem k0_X4_isWord : zk0 Y_X4_isWord 1 := ⟨wd_458, wd_184, ⟨by decide, by decide, by decide +kernel⟩, rfl⟩
theorem kl_X4_46 : zkL RX4 46 Y_X4_isWord := Or.inl wd_455
theorem kV_X4_isWord : zkV Y_X4_isWord := ⟨wd_457, wd_8⟩
theorem fd_X4_110 : zFd RX4 110 4 5 := ⟨(RX4, TX4, 8), rfl, by decide, zu_X4, rfl, Or.inl wd_363⟩
theorem fp_X4_readNumber_110 : zFp Y_X4_readNumber 110 4 5 0 := ⟨(RX4, TX4, 8), tyX4, rfl, tyX4_ok, nmX4, rfl, rfl, Or.inl rfl⟩
theorem mq_X4_161 : zL (.methodLink RX4 161 Lib.Math.min.name) ∧ zL (.static Lib.Math.min.name) ∧ zL (.initialized "java/lang/Math") ∧ zL (.code Lib.Math.min.name Lib.Math.min.code 2 (some .int)) := ⟨wd_524, wd_525, wd_196, wd_526⟩
theorem kl_X4_113 : zkL RX4 113 Y_X1_putRule := Or.inr ⟨"PathTrust", wd_527⟩
theorem k0_X4_readNumber : zk0 Y_X4_readNumber 2 := ⟨wd_523, wd_184, ⟨by decide, by decide, by decide +kernel⟩, rfl⟩
theorem kl_X4_106 : zkL RX4 106 Y_X4_readNumber := Or.inl wd_520
theorem kV_X4_readNumber : zkV Y_X4_readNumber := ⟨wd_522, wd_11⟩
theorem k0_X4_readWord : zk0 Y_X4_readWord 1 := ⟨wd_454, wd_184, ⟨by decide, by decide, by decide +kernel⟩, rfl⟩
theorem kl_X4_79 : zkL RX4 79 Y_X4_readWord := Or.inl wd_451
theorem kV_X4_readWord : zkV Y_X4_readWord := ⟨wd_453, wd_7⟩
theorem k0_X4_readSemicolon : zk0 Y_X4_readSemicolon 0 := ⟨wd_535, wd_184, ⟨by decide, by decide, by decide +kernel⟩, rfl⟩
theorem kl_X4_96 : zkL RX4 96 Y_X4_readSemicolon := Or.inl wd_532
theorem kV_X4_readSemicolon : zkV Y_X4_readSemicolon := ⟨wd_534, wd_12⟩
theorem k0_X4_readRule : zk0 Y_X4_readRule 2 := ⟨wd_515, wd_184, ⟨by decide, by decide, by decide +kernel⟩, rfl⟩
theorem kl_X4_84 : zkL RX4 84 Y_X4_readRule := Or.inl wd_512
theorem kV_X4_readRule : zkV Y_X4_readRule := ⟨wd_514, wd_10⟩
theorem fd_X4_117 : zFd RX4 117 3 1 := ⟨(RX3, TX3, 2), rfl, by decide, zu_X3, rfl, Or.inr ⟨"PathTrust", wd_278⟩⟩
theorem k0_X3_add : zk0 Y_X3_add 1 := ⟨wd_561, wd_181, ⟨by decide, by decide, by decide +kernel⟩, rfl⟩
theorem kl_X4_138 : zkL RX4 138 Y_X3_add := Or.inr ⟨"PathTrust", wd_558⟩
theorem kV_X3_add : zkV Y_X3_add := ⟨wd_560, wd_17⟩
theorem k0_X3_find : zk0 Y_X3_find 1 := ⟨wd_557, wd_181, ⟨by decide, by decide, by decide +kernel⟩, rfl⟩
theorem kl_X4_134 : zkL RX4 134 Y_X3_find := Or.inr ⟨"PathTrust", wd_554⟩
theorem kV_X3_find : zkV Y_X3_find := ⟨wd_556, wd_16⟩
theorem k0_X0_nameCode : zk0 Y_X0_nameCode 2 := ⟨wd_552, wd_178, ⟨by decide, by decide, by decide +kernel⟩, rfl⟩
theorem kl_X4_128 : zkL RX4 128 Y_X0_nameCode := Or.inr ⟨"PathTrust", wd_549⟩
theorem kV_X0_nameCode : zkV Y_X0_nameCode := ⟨wd_551, wd_15⟩
theorem k0_X4_isName : zk0 Y_X4_isName 0 := ⟨wd_544, wd_184, ⟨by decide, by decide, by decide +kernel⟩, rfl⟩
theorem kl_X4_122 : zkL RX4 122 Y_X4_isName := Or.inl wd_541
theorem kV_X4_isName : zkV Y_X4_isName := ⟨wd_543, wd_14⟩
theorem fp_X4_isNameOf_110 : zFp Y_X4_isNameOf 110 4 5 0 := ⟨(RX4, TX4, 8), tyX4, rfl, tyX4_ok, nmX4, rfl, rfl, Or.inl rfl⟩
theorem kl_X4_150 : zkL RX4 150 Y_X1_putTrust := Or.inr ⟨"PathTrust", wd_578⟩
theorem fd_X4_50 : zFd RX4 50 1 1 := ⟨(RX1, TX1, 9), rfl, by decide, zu_X1, rfl, Or.inr ⟨"PathTrust", wd_320⟩⟩
theorem kl_X4_145 : zkL RX4 145 Y_X1_isLinked := Or.inr ⟨"PathTrust", wd_570⟩
theorem k0_X4_isNameOf : zk0 Y_X4_isNameOf 1 := ⟨wd_569, wd_184, ⟨by decide, by decide, by decide +kernel⟩, rfl⟩
theorem kl_X4_142 : zkL RX4 142 Y_X4_isNameOf := Or.inl wd_566
theorem kV_X4_isNameOf : zkV Y_X4_isNameOf := ⟨wd_568, wd_19⟩
theorem fd_X4_60 : zFd RX4 60 1 2 := ⟨(RX1, TX1, 9), rfl, by decide, zu_X1, rfl, Or.inr ⟨"PathTrust", wd_323⟩⟩
theorem k0_X1_makeProbe : zk0 Y_X1_makeProbe 4 := ⟨wd_589, wd_180, ⟨by decide, by decide, by decide +kernel⟩, rfl⟩
theorem kl_X4_154 : zkL RX4 154 Y_X1_makeProbe := Or.inr ⟨"PathTrust", wd_586⟩
theorem kV_X1_makeProbe : zkV Y_X1_makeProbe := ⟨wd_588, wd_24⟩
theorem k0_X4_readProbe : zk0 Y_X4_readProbe 0 := ⟨wd_585, wd_184, ⟨by decide, by decide, by decide +kernel⟩, rfl⟩
theorem kl_X4_70 : zkL RX4 70 Y_X4_readProbe := Or.inl wd_582
theorem kV_X4_readProbe : zkV Y_X4_readProbe := ⟨wd_584, wd_23⟩
theorem k0_X4_readLink : zk0 Y_X4_readLink 0 := ⟨wd_565, wd_184, ⟨by decide, by decide, by decide +kernel⟩, rfl⟩
theorem kl_X4_65 : zkL RX4 65 Y_X4_readLink := Or.inl wd_562
theorem kV_X4_readLink : zkV Y_X4_readLink := ⟨wd_564, wd_18⟩
theorem k0_X4_readNewName : zk0 Y_X4_readNewName 1 := ⟨wd_540, wd_184, ⟨by decide, by decide, by decide +kernel⟩, rfl⟩
theorem kl_X4_54 : zkL RX4 54 Y_X4_readNewName := Or.inl wd_537
theorem kV_X4_readNewName : zkV Y_X4_readNewName := ⟨wd_539, wd_13⟩
theorem fp_X4_parse_23 : zFp Y_X4_parse 23 4 4 0 := ⟨(RX4, TX4, 8), tyX4, rfl, tyX4_ok, nmX4, rfl, rfl, Or.inl rfl⟩
theorem fp_X4_parse_26 : zFp Y_X4_parse 26 4 6 0 := ⟨(RX4, TX4, 8), tyX4, rfl, tyX4_ok, nmX4, rfl, rfl, Or.inl rfl⟩
theorem fp_X4_parse_9 : zFp Y_X4_parse 9 4 7 0 := ⟨(RX4, TX4, 8), tyX4, rfl, tyX4_ok, nmX4, rfl, rfl, Or.inl rfl⟩
theorem k0_X4_readRules : zk0 Y_X4_readRules 0 := ⟨wd_449, wd_184, ⟨by decide, by decide, by decide +kernel⟩, rfl⟩
theorem kl_X4_37 : zkL RX4 37 Y_X4_readRules := Or.inl wd_446
theorem kV_X4_readRules : zkV Y_X4_readRules := ⟨wd_448, wd_6⟩
theorem kl_X4_29 : zkL RX4 29 Y_X1_reset := Or.inr ⟨"PathTrust", wd_434⟩
theorem kl_X5_57 : zkL RX5 57 Y_X5_removeRow := Or.inl wd_1357
theorem kl_X5_53 : zkL RX5 53 Y_X7_contains := Or.inr ⟨"PathTrust", wd_1356⟩
theorem oi_X6_3 : zL (.methodLink RX6 3 objectInit) ∧ zL (.instanceMethod objectInit) ∧ zL (.code objectInit ⟨#[0xb1]⟩ 1 none) := ⟨wd_230, wd_207, wd_208⟩
theorem zu_X6 : ∀ w ∈ u_ws RX6 TX6 9, zL w := List.forall_mem_cons.mpr ⟨wd_242, List.forall_mem_cons.mpr ⟨wd_244, List.forall_mem_cons.mpr ⟨wd_246, List.forall_mem_cons.mpr ⟨wd_248, List.forall_mem_cons.mpr ⟨wd_250, List.forall_mem_cons.mpr ⟨wd_252, List.forall_mem_cons.mpr ⟨wd_254, List.forall_mem_cons.mpr ⟨wd_256, List.forall_mem_cons.mpr ⟨wd_258, fun _ h => nomatch h⟩⟩⟩⟩⟩⟩⟩⟩⟩
theorem fd_X6_9 : zFd RX6 9 6 0 := ⟨(RX6, TX6, 9), rfl, by decide, zu_X6, rfl, Or.inl wd_231⟩
theorem fp_X6_init_9 : zFp Y_X6_init 9 6 0 4 := ⟨(RX6, TX6, 9), tyX6, rfl, tyX6_ok, nmX6, rfl, Or.inr ⟨_, rfl⟩, Or.inr ⟨rfl, rfl, rfl, wd_231⟩⟩
theorem fd_X6_15 : zFd RX6 15 6 1 := ⟨(RX6, TX6, 9), rfl, by decide, zu_X6, rfl, Or.inl wd_232⟩
theorem fp_X6_init_15 : zFp Y_X6_init 15 6 1 4 := ⟨(RX6, TX6, 9), tyX6, rfl, tyX6_ok, nmX6, rfl, Or.inr ⟨_, rfl⟩, Or.inr ⟨rfl, rfl, rfl, wd_232⟩⟩
theorem fd_X6_18 : zFd RX6 18 6 2 := ⟨(RX6, TX6, 9), rfl, by decide, zu_X6, rfl, Or.inl wd_233⟩
theorem fp_X6_init_18 : zFp Y_X6_init 18 6 2 4 := ⟨(RX6, TX6, 9), tyX6, rfl, tyX6_ok, nmX6, rfl, Or.inr ⟨_, rfl⟩, Or.inr ⟨rfl, rfl, rfl, wd_233⟩⟩
theorem fd_X6_21 : zFd RX6 21 6 3 := ⟨(RX6, TX6, 9), rfl, by decide, zu_X6, rfl, Or.inl wd_234⟩
theorem fp_X6_init_21 : zFp Y_X6_init 21 6 3 4 := ⟨(RX6, TX6, 9), tyX6, rfl, tyX6_ok, nmX6, rfl, Or.inr ⟨_, rfl⟩, Or.inr ⟨rfl, rfl, rfl, wd_234⟩⟩
theorem fd_X6_24 : zFd RX6 24 6 4 := ⟨(RX6, TX6, 9), rfl, by decide, zu_X6, rfl, Or.inl wd_235⟩
theorem fp_X6_init_24 : zFp Y_X6_init 24 6 4 4 := ⟨(RX6, TX6, 9), tyX6, rfl, tyX6_ok, nmX6, rfl, Or.inr ⟨_, rfl⟩, Or.inr ⟨rfl, rfl, rfl, wd_235⟩⟩
theorem fd_X6_27 : zFd RX6 27 6 5 := ⟨(RX6, TX6, 9), rfl, by decide, zu_X6, rfl, Or.inl wd_236⟩
theorem fp_X6_init_27 : zFp Y_X6_init 27 6 5 4 := ⟨(RX6, TX6, 9), tyX6, rfl, tyX6_ok, nmX6, rfl, Or.inr ⟨_, rfl⟩, Or.inr ⟨rfl, rfl, rfl, wd_236⟩⟩
theorem kl_X6_78 : zkL RX6 78 Y_X5_highMoved := Or.inr ⟨"PathTrust", wd_946⟩
theorem kl_X6_75 : zkL RX6 75 Y_X5_lowMoved := Or.inr ⟨"PathTrust", wd_945⟩
theorem kl_X6_49 : zkL RX6 49 Y_X5_get := Or.inr ⟨"PathTrust", wd_934⟩
theorem kl_X6_71 : zkL RX6 71 Y_X1_rule := Or.inr ⟨"PathTrust", wd_944⟩
theorem k0_X1_beliefSpread : zk0 Y_X1_beliefSpread 2 := ⟨wd_943, wd_180, ⟨by decide, by decide, by decide +kernel⟩, rfl⟩
theorem kl_X6_68 : zkL RX6 68 Y_X1_beliefSpread := Or.inr ⟨"PathTrust", wd_940⟩
theorem kV_X1_beliefSpread : zkV Y_X1_beliefSpread := ⟨wd_942, wd_54⟩
theorem kl_X6_65 : zkL RX6 65 Y_X1_trustIn := Or.inr ⟨"PathTrust", wd_939⟩
theorem kl_X6_40 : zkL RX6 40 Y_X1_listOf := Or.inr ⟨"PathTrust", wd_933⟩
theorem fd_X6_30 : zFd RX6 30 6 6 := ⟨(RX6, TX6, 9), rfl, by decide, zu_X6, rfl, Or.inl wd_237⟩
theorem fd_X6_34 : zFd RX6 34 6 7 := ⟨(RX6, TX6, 9), rfl, by decide, zu_X6, rfl, Or.inl wd_238⟩
theorem mq_X6_81 : zL (.methodLink RX6 81 Lib.Math.max.name) ∧ zL (.static Lib.Math.max.name) ∧ zL (.initialized "java/lang/Math") ∧ zL (.code Lib.Math.max.name Lib.Math.max.code 2 (some .int)) := ⟨wd_955, wd_647, wd_196, wd_648⟩
theorem fd_X6_37 : zFd RX6 37 6 8 := ⟨(RX6, TX6, 9), rfl, by decide, zu_X6, rfl, Or.inl wd_240⟩
theorem mq_X6_86 : zL (.methodLink RX6 86 Lib.Math.min.name) ∧ zL (.static Lib.Math.min.name) ∧ zL (.initialized "java/lang/Math") ∧ zL (.code Lib.Math.min.name Lib.Math.min.code 2 (some .int)) := ⟨wd_956, wd_525, wd_196, wd_526⟩
theorem fp_X6_take_34 : zFp Y_X6_take 34 6 7 0 := ⟨(RX6, TX6, 9), tyX6, rfl, tyX6_ok, nmX6, rfl, rfl, Or.inl rfl⟩
theorem fp_X6_take_37 : zFp Y_X6_take 37 6 8 0 := ⟨(RX6, TX6, 9), tyX6, rfl, tyX6_ok, nmX6, rfl, rfl, Or.inl rfl⟩
theorem k0_X6_take : zk0 Y_X6_take 1 := ⟨wd_954, wd_179, ⟨by decide, by decide, by decide +kernel⟩, rfl⟩
theorem kl_X6_61 : zkL RX6 61 Y_X6_take := Or.inl wd_951
theorem kV_X6_take : zkV Y_X6_take := ⟨wd_953, wd_56⟩
theorem k0_X6_nextToTake : zk0 Y_X6_nextToTake 0 := ⟨wd_950, wd_179, ⟨by decide, by decide, by decide +kernel⟩, rfl⟩
theorem kl_X6_57 : zkL RX6 57 Y_X6_nextToTake := Or.inl wd_947
theorem kV_X6_nextToTake : zkV Y_X6_nextToTake := ⟨wd_949, wd_55⟩
theorem fd_X6_46 : zFd RX6 46 5 1 := ⟨(RX5, TX5, 2), rfl, by decide, zu_X5, rfl, Or.inr ⟨"PathTrust", wd_293⟩⟩
theorem fp_X6_form_30 : zFp Y_X6_form 30 6 6 0 := ⟨(RX6, TX6, 9), tyX6, rfl, tyX6_ok, nmX6, rfl, rfl, Or.inl rfl⟩
theorem k0_X6_note : zk0 Y_X6_note 4 := ⟨wd_938, wd_179, ⟨by decide, by decide, by decide +kernel⟩, rfl⟩
theorem kl_X6_53 : zkL RX6 53 Y_X6_note := Or.inl wd_935
theorem kV_X6_note : zkV Y_X6_note := ⟨wd_937, wd_53⟩
theorem fp_X6_form_34 : zFp Y_X6_form 34 6 7 0 := ⟨(RX6, TX6, 9), tyX6, rfl, tyX6_ok, nmX6, rfl, rfl, Or.inl rfl⟩
theorem fp_X6_form_37 : zFp Y_X6_form 37 6 8 0 := ⟨(RX6, TX6, 9), tyX6, rfl, tyX6_ok, nmX6, rfl, rfl, Or.inl rfl⟩
theorem k0_J6_bitCount_0f7a4 : zk0 Y_J6_bitCount_0f7a4 1 := ⟨wd_1034, wd_199, ⟨by decide, by decide, by decide +kernel⟩, rfl⟩
theorem kl_X6_92 : zkL RX6 92 Y_J6_bitCount_0f7a4 := Or.inl wd_1032
theorem k0_X6_originsAround : zk0 Y_X6_originsAround 1 := ⟨wd_1031, wd_179, ⟨by decide, by decide, by decide +kernel⟩, rfl⟩
theorem kl_X6_89 : zkL RX6 89 Y_X6_originsAround := Or.inl wd_1028
theorem kV_X6_originsAround : zkV Y_X6_originsAround := ⟨wd_1030, wd_63⟩
theorem kl_X6_97 : zkL RX6 97 Y_X7_contains := Or.inr ⟨"PathTrust", wd_1049⟩
theorem oi_X7_1 : zL (.methodLink RX7 1 objectInit) ∧ zL (.instanceMethod objectInit) ∧ zL (.code objectInit ⟨#[0xb1]⟩ 1 none) := ⟨wd_206, wd_207, wd_208⟩
theorem df_X0 : (∀ j, j < 2 → defaultValue (tyX0 j) = if zfe 0 j = 4 then .null else .int 0) ∧ ∀ j, j < 2 → zfe 0 j = 0 ∨ zfe 0 j = 4 := ⟨fun j hj => by
    rcases (show j = 0 ∨ j = 1 by omega) with rfl | rfl <;> rfl,
  by decide⟩
theorem nw_X7_7 : zNw RX7 7 0 := ⟨(RX0, TX0, 2), tyX0, rfl, zu_X0, tyX0_ok, wd_209, wd_210, wd_178, df_X0.1, df_X0.2⟩
theorem zu_X7 : ∀ w ∈ u_ws RX7 TX7 8, zL w := List.forall_mem_cons.mpr ⟨wd_409, List.forall_mem_cons.mpr ⟨wd_411, List.forall_mem_cons.mpr ⟨wd_413, List.forall_mem_cons.mpr ⟨wd_415, List.forall_mem_cons.mpr ⟨wd_417, List.forall_mem_cons.mpr ⟨wd_419, List.forall_mem_cons.mpr ⟨wd_421, List.forall_mem_cons.mpr ⟨wd_423, fun _ h => nomatch h⟩⟩⟩⟩⟩⟩⟩⟩
theorem fd_X7_14 : zFd RX7 14 7 0 := ⟨(RX7, TX7, 8), rfl, by decide, zu_X7, rfl, Or.inl wd_401⟩
theorem fp_X7_init_14 : zFp Y_X7_init 14 7 0 4 := ⟨(RX7, TX7, 8), tyX7, rfl, tyX7_ok, nmX7, rfl, Or.inl ⟨_, rfl⟩, Or.inr ⟨rfl, rfl, rfl, wd_401⟩⟩
theorem fd_X7_18 : zFd RX7 18 7 1 := ⟨(RX7, TX7, 8), rfl, by decide, zu_X7, rfl, Or.inl wd_402⟩
theorem fp_X7_init_18 : zFp Y_X7_init 18 7 1 4 := ⟨(RX7, TX7, 8), tyX7, rfl, tyX7_ok, nmX7, rfl, Or.inl ⟨_, rfl⟩, Or.inr ⟨rfl, rfl, rfl, wd_402⟩⟩
theorem df_X6 : (∀ j, j < 9 → defaultValue (tyX6 j) = if zfe 6 j = 4 then .null else .int 0) ∧ ∀ j, j < 9 → zfe 6 j = 0 ∨ zfe 6 j = 4 := ⟨fun j hj => by
    rcases (show j = 0 ∨ j = 1 ∨ j = 2 ∨ j = 3 ∨ j = 4 ∨ j = 5 ∨ j = 6 ∨ j = 7 ∨ j = 8 by omega) with rfl | rfl | rfl | rfl | rfl | rfl | rfl | rfl | rfl <;> rfl,
  by decide⟩
theorem nw_X7_21 : zNw RX7 21 6 := ⟨(RX6, TX6, 9), tyX6, rfl, zu_X6, tyX6_ok, wd_225, wd_226, wd_179, df_X6.1, df_X6.2⟩
theorem fd_X7_24 : zFd RX7 24 7 2 := ⟨(RX7, TX7, 8), rfl, by decide, zu_X7, rfl, Or.inl wd_403⟩
theorem fp_X7_init_24 : zFp Y_X7_init 24 7 2 4 := ⟨(RX7, TX7, 8), tyX7, rfl, tyX7_ok, nmX7, rfl, Or.inl ⟨_, rfl⟩, Or.inr ⟨rfl, rfl, rfl, wd_403⟩⟩
theorem nw_X7_28 : zNw RX7 28 1 := ⟨(RX1, TX1, 9), tyX1, rfl, zu_X1, tyX1_ok, wd_262, wd_263, wd_180, df_X1.1, df_X1.2⟩
theorem fd_X7_31 : zFd RX7 31 7 3 := ⟨(RX7, TX7, 8), rfl, by decide, zu_X7, rfl, Or.inl wd_404⟩
theorem fp_X7_init_31 : zFp Y_X7_init 31 7 3 4 := ⟨(RX7, TX7, 8), tyX7, rfl, tyX7_ok, nmX7, rfl, Or.inl ⟨_, rfl⟩, Or.inr ⟨rfl, rfl, rfl, wd_404⟩⟩
theorem fd_X7_35 : zFd RX7 35 7 4 := ⟨(RX7, TX7, 8), rfl, by decide, zu_X7, rfl, Or.inl wd_405⟩
theorem fp_X7_init_35 : zFp Y_X7_init 35 7 4 4 := ⟨(RX7, TX7, 8), tyX7, rfl, tyX7_ok, nmX7, rfl, Or.inl ⟨_, rfl⟩, Or.inr ⟨rfl, rfl, rfl, wd_405⟩⟩
theorem df_X4 : (∀ j, j < 8 → defaultValue (tyX4 j) = if zfe 4 j = 4 then .null else .int 0) ∧ ∀ j, j < 8 → zfe 4 j = 0 ∨ zfe 4 j = 4 := ⟨fun j hj => by
    rcases (show j = 0 ∨ j = 1 ∨ j = 2 ∨ j = 3 ∨ j = 4 ∨ j = 5 ∨ j = 6 ∨ j = 7 by omega) with rfl | rfl | rfl | rfl | rfl | rfl | rfl | rfl <;> rfl,
  by decide⟩
theorem nw_X7_38 : zNw RX7 38 4 := ⟨(RX4, TX4, 8), tyX4, rfl, zu_X4, tyX4_ok, wd_352, wd_353, wd_184, df_X4.1, df_X4.2⟩
theorem fd_X7_43 : zFd RX7 43 7 5 := ⟨(RX7, TX7, 8), rfl, by decide, zu_X7, rfl, Or.inl wd_406⟩
theorem fp_X7_init_43 : zFp Y_X7_init 43 7 5 4 := ⟨(RX7, TX7, 8), tyX7, rfl, tyX7_ok, nmX7, rfl, Or.inl ⟨_, rfl⟩, Or.inr ⟨rfl, rfl, rfl, wd_406⟩⟩
theorem df_X2 : (∀ j, j < 2 → defaultValue (tyX2 j) = if zfe 2 j = 4 then .null else .int 0) ∧ ∀ j, j < 2 → zfe 2 j = 0 ∨ zfe 2 j = 4 := ⟨fun j hj => by
    rcases (show j = 0 ∨ j = 1 by omega) with rfl | rfl <;> rfl,
  by decide⟩
theorem nw_X7_47 : zNw RX7 47 2 := ⟨(RX2, TX2, 2), tyX2, rfl, zu_X2, tyX2_ok, wd_385, wd_386, wd_185, df_X2.1, df_X2.2⟩
theorem fd_X7_50 : zFd RX7 50 7 6 := ⟨(RX7, TX7, 8), rfl, by decide, zu_X7, rfl, Or.inl wd_407⟩
theorem fp_X7_init_50 : zFp Y_X7_init 50 7 6 4 := ⟨(RX7, TX7, 8), tyX7, rfl, tyX7_ok, nmX7, rfl, Or.inl ⟨_, rfl⟩, Or.inr ⟨rfl, rfl, rfl, wd_407⟩⟩
theorem fd_X7_54 : zFd RX7 54 7 7 := ⟨(RX7, TX7, 8), rfl, by decide, zu_X7, rfl, Or.inl wd_408⟩
theorem fp_X7_init_54 : zFp Y_X7_init 54 7 7 4 := ⟨(RX7, TX7, 8), tyX7, rfl, tyX7_ok, nmX7, rfl, Or.inr ⟨_, rfl⟩, Or.inr ⟨rfl, rfl, rfl, wd_408⟩⟩
theorem k0_X2_init : zk0 Y_X2_init 0 := ⟨wd_389, wd_185, ⟨by decide, by decide, by decide +kernel⟩, rfl⟩
theorem kl_X7_49 : zkL RX7 49 Y_X2_init := Or.inr ⟨"PathTrust", wd_387⟩
theorem kI_X2_init : (Y_X2_init).1.name = "<init>" ∧ zL (.instanceMethod (Y_X2_init).1) ∧ (Y_X2_init).2.2.2.1 = none := ⟨rfl, wd_388, rfl⟩
theorem k0_X4_init : zk0 Y_X4_init 2 := ⟨wd_356, wd_184, ⟨by decide, by decide, by decide +kernel⟩, rfl⟩
theorem kl_X7_40 : zkL RX7 40 Y_X4_init := Or.inr ⟨"PathTrust", wd_354⟩
theorem kI_X4_init : (Y_X4_init).1.name = "<init>" ∧ zL (.instanceMethod (Y_X4_init).1) ∧ (Y_X4_init).2.2.2.1 = none := ⟨rfl, wd_355, rfl⟩
theorem kl_X7_30 : zkL RX7 30 Y_X1_init := Or.inr ⟨"PathTrust", wd_264⟩
theorem k0_X6_init : zk0 Y_X6_init 0 := ⟨wd_229, wd_179, ⟨by decide, by decide, by decide +kernel⟩, rfl⟩
theorem kl_X7_23 : zkL RX7 23 Y_X6_init := Or.inr ⟨"PathTrust", wd_227⟩
theorem kI_X6_init : (Y_X6_init).1.name = "<init>" ∧ zL (.instanceMethod (Y_X6_init).1) ∧ (Y_X6_init).2.2.2.1 = none := ⟨rfl, wd_228, rfl⟩
theorem k0_X0_init : zk0 Y_X0_init 1 := ⟨wd_213, wd_178, ⟨by decide, by decide, by decide +kernel⟩, rfl⟩
theorem kl_X7_11 : zkL RX7 11 Y_X0_init := Or.inr ⟨"PathTrust", wd_211⟩
theorem kI_X0_init : (Y_X0_init).1.name = "<init>" ∧ zL (.instanceMethod (Y_X0_init).1) ∧ (Y_X0_init).2.2.2.1 = none := ⟨rfl, wd_212, rfl⟩
theorem fd_X7_58 : zFd RX7 58 0 1 := ⟨(RX0, TX0, 2), rfl, by decide, zu_X0, rfl, Or.inr ⟨"PathTrust", wd_216⟩⟩
theorem k0_X0_addFour : zk0 Y_X0_addFour 1 := ⟨wd_787, wd_178, ⟨by decide, by decide, by decide +kernel⟩, rfl⟩
theorem kl_X7_69 : zkL RX7 69 Y_X0_addFour := Or.inr ⟨"PathTrust", wd_784⟩
theorem kV_X0_addFour : zkV Y_X0_addFour := ⟨wd_786, wd_45⟩
theorem at_X7_66_0 : (∀ w ∈ vx_atS RX7 66 (zex 0) ["java/lang/RuntimeException", "java/lang/Exception"], zL w) ∧ ∀ w ∈ vx_atS RX7 66 (zex 0) ["java/lang/RuntimeException", "java/lang/Exception"], vx_ot w = true := zat_ok (by decide +kernel)
theorem th_X7_62_64_66 (K : zY) (hK : K.1.cls = RX7) : zth K 62 64 66 0 := by
  unfold zth
  rw [hK]
  exact ⟨wd_716, wd_190, ⟨"the input buffer is full", by decide +kernel⟩, at_X7_66_0.1, by decide +kernel, List.forall_mem_cons.mpr ⟨by decide +kernel, List.forall_mem_cons.mpr ⟨by decide +kernel, at_X7_66_0.2⟩⟩⟩
theorem at_X7_258_1 : (∀ w ∈ vx_atS RX7 258 (zex 1) ["java/lang/RuntimeException", "java/lang/Exception"], zL w) ∧ ∀ w ∈ vx_atS RX7 258 (zex 1) ["java/lang/RuntimeException", "java/lang/Exception"], vx_ot w = true := zat_ok (by decide +kernel)
theorem th_X7_254_325_258 (K : zY) (hK : K.1.cls = RX7) : zth K 254 325 258 1 := by
  unfold zth
  rw [hK]
  exact ⟨wd_803, wd_191, ⟨"a value is out of range", by decide +kernel⟩, at_X7_258_1.1, by decide +kernel, List.forall_mem_cons.mpr ⟨by decide +kernel, List.forall_mem_cons.mpr ⟨by decide +kernel, at_X7_258_1.2⟩⟩⟩
theorem fp_X7_truncate_58 : zFp Y_X7_truncate 58 0 1 0 := ⟨(RX0, TX0, 2), tyX0, rfl, tyX0_ok, nmX0, rfl, rfl, Or.inl rfl⟩
theorem k0_X7_checkRange : zk0 Y_X7_checkRange 3 := ⟨wd_802, wd_177, ⟨by decide, by decide, by decide +kernel⟩, rfl⟩
theorem kl_X7_72 : zkL RX7 72 Y_X7_checkRange := Or.inl wd_800
theorem fp_X7_load_58 : zFp Y_X7_load 58 0 1 0 := ⟨(RX0, TX0, 2), tyX0, rfl, tyX0_ok, nmX0, rfl, rfl, Or.inl rfl⟩
theorem fd_X7_87 : zFd RX7 87 1 1 := ⟨(RX1, TX1, 9), rfl, by decide, zu_X1, rfl, Or.inr ⟨"PathTrust", wd_321⟩⟩
theorem fd_X7_91 : zFd RX7 91 3 1 := ⟨(RX3, TX3, 2), rfl, by decide, zu_X3, rfl, Or.inr ⟨"PathTrust", wd_277⟩⟩
theorem kl_X7_84 : zkL RX7 84 Y_X1_become := Or.inr ⟨"PathTrust", wd_681⟩
theorem k0_X2_push : zk0 Y_X2_push 1 := ⟨wd_660, wd_185, ⟨by decide, by decide, by decide +kernel⟩, rfl⟩
theorem kl_X7_80 : zkL RX7 80 Y_X2_push := Or.inr ⟨"PathTrust", wd_657⟩
theorem kV_X2_push : zkV Y_X2_push := ⟨wd_659, wd_38⟩
theorem k0_X4_parse : zk0 Y_X4_parse 0 := ⟨wd_433, wd_184, ⟨by decide, by decide, by decide +kernel⟩, rfl⟩
theorem kl_X7_76 : zkL RX7 76 Y_X4_parse := Or.inr ⟨"PathTrust", wd_430⟩
theorem kV_X4_parse : zkV Y_X4_parse := ⟨wd_432, wd_3⟩
theorem fd_X7_96 : zFd RX7 96 4 6 := ⟨(RX4, TX4, 8), rfl, by decide, zu_X4, rfl, Or.inr ⟨"PathTrust", wd_365⟩⟩
theorem fd_X7_99 : zFd RX7 99 4 7 := ⟨(RX4, TX4, 8), rfl, by decide, zu_X4, rfl, Or.inr ⟨"PathTrust", wd_367⟩⟩
theorem fp_X7_findInput_58 : zFp Y_X7_findInput 58 0 1 0 := ⟨(RX0, TX0, 2), tyX0, rfl, tyX0_ok, nmX0, rfl, rfl, Or.inl rfl⟩
theorem kl_X7_337 : zkL RX7 337 Y_X3_find := Or.inr ⟨"PathTrust", wd_699⟩
theorem kl_X7_334 : zkL RX7 334 Y_X0_nameCode := Or.inr ⟨"PathTrust", wd_698⟩
theorem k0_X7_findInput : zk0 Y_X7_findInput 1 := ⟨wd_697, wd_177, ⟨by decide, by decide, by decide +kernel⟩, rfl⟩
theorem kl_X7_102 : zkL RX7 102 Y_X7_findInput := Or.inl wd_694
theorem kV_X7_findInput : zkV Y_X7_findInput := ⟨wd_696, wd_43⟩
theorem fd_X7_106 : zFd RX7 106 1 2 := ⟨(RX1, TX1, 9), rfl, by decide, zu_X1, rfl, Or.inr ⟨"PathTrust", wd_324⟩⟩
theorem kl_X7_123 : zkL RX7 123 Y_X1_rule := Or.inr ⟨"PathTrust", wd_830⟩
theorem fd_X7_109 : zFd RX7 109 1 8 := ⟨(RX1, TX1, 9), rfl, by decide, zu_X1, rfl, Or.inr ⟨"PathTrust", wd_332⟩⟩
theorem fd_X7_112 : zFd RX7 112 1 6 := ⟨(RX1, TX1, 9), rfl, by decide, zu_X1, rfl, Or.inr ⟨"PathTrust", wd_329⟩⟩
theorem fd_X7_116 : zFd RX7 116 5 1 := ⟨(RX5, TX5, 2), rfl, by decide, zu_X5, rfl, Or.inr ⟨"PathTrust", wd_295⟩⟩
theorem k0_X1_linkCount : zk0 Y_X1_linkCount 0 := ⟨wd_829, wd_180, ⟨by decide, by decide, by decide +kernel⟩, rfl⟩
theorem kl_X7_119 : zkL RX7 119 Y_X1_linkCount := Or.inr ⟨"PathTrust", wd_826⟩
theorem kV_X1_linkCount : zkV Y_X1_linkCount := ⟨wd_828, wd_47⟩
theorem at_X7_313_2 : (∀ w ∈ vx_atS RX7 313 (zex 2) ["java/lang/RuntimeException", "java/lang/Exception"], zL w) ∧ ∀ w ∈ vx_atS RX7 313 (zex 2) ["java/lang/RuntimeException", "java/lang/Exception"], vx_ot w = true := zat_ok (by decide +kernel)
theorem th_X7_309_317_313 (K : zY) (hK : K.1.cls = RX7) : zth K 309 317 313 2 := by
  unfold zth
  rw [hK]
  exact ⟨wd_843, wd_198, ⟨"no such agent", by decide +kernel⟩, at_X7_313_2.1, by decide +kernel, List.forall_mem_cons.mpr ⟨by decide +kernel, List.forall_mem_cons.mpr ⟨by decide +kernel, at_X7_313_2.2⟩⟩⟩
theorem kl_X7_130 : zkL RX7 130 Y_X1_trustIn := Or.inr ⟨"PathTrust", wd_859⟩
theorem k0_X7_checkAgent : zk0 Y_X7_checkAgent 1 := ⟨wd_842, wd_177, ⟨by decide, by decide, by decide +kernel⟩, rfl⟩
theorem kl_X7_127 : zkL RX7 127 Y_X7_checkAgent := Or.inl wd_839
theorem kV_X7_checkAgent : zkV Y_X7_checkAgent := ⟨wd_841, wd_48⟩
theorem kl_X7_134 : zkL RX7 134 Y_X1_isLinked := Or.inr ⟨"PathTrust", wd_867⟩
theorem k0_X1_reachedFrom : zk0 Y_X1_reachedFrom 2 := ⟨wd_881, wd_180, ⟨by decide, by decide, by decide +kernel⟩, rfl⟩
theorem kl_X7_141 : zkL RX7 141 Y_X1_reachedFrom := Or.inr ⟨"PathTrust", wd_878⟩
theorem kV_X1_reachedFrom : zkV Y_X1_reachedFrom := ⟨wd_880, wd_49⟩
theorem kl_X7_138 : zkL RX7 138 Y_X7_contains := Or.inl wd_875
theorem kl_X7_144 : zkL RX7 144 Y_X1_listOf := Or.inr ⟨"PathTrust", wd_904⟩
theorem th_X7_309_321_313 (K : zY) (hK : K.1.cls = RX7) : zth K 309 321 313 2 := by
  unfold zth
  rw [hK]
  exact ⟨wd_843, wd_198, ⟨"no such report", by decide +kernel⟩, at_X7_313_2.1, by decide +kernel, List.forall_mem_cons.mpr ⟨by decide +kernel, List.forall_mem_cons.mpr ⟨by decide +kernel, at_X7_313_2.2⟩⟩⟩
theorem kl_X7_152 : zkL RX7 152 Y_X5_get := Or.inr ⟨"PathTrust", wd_917⟩
theorem k0_X7_checkReport : zk0 Y_X7_checkReport 2 := ⟨wd_915, wd_177, ⟨by decide, by decide, by decide +kernel⟩, rfl⟩
theorem kl_X7_148 : zkL RX7 148 Y_X7_checkReport := Or.inl wd_912
theorem kV_X7_checkReport : zkV Y_X7_checkReport := ⟨wd_914, wd_50⟩
theorem k0_X6_statusOf : zk0 Y_X6_statusOf 1 := ⟨wd_960, wd_179, ⟨by decide, by decide, by decide +kernel⟩, rfl⟩
theorem kl_X7_340 : zkL RX7 340 Y_X6_statusOf := Or.inr ⟨"PathTrust", wd_957⟩
theorem kV_X6_statusOf : zkV Y_X6_statusOf := ⟨wd_959, wd_57⟩
theorem k0_X6_form : zk0 Y_X6_form 4 := ⟨wd_932, wd_179, ⟨by decide, by decide, by decide +kernel⟩, rfl⟩
theorem kl_X7_181 : zkL RX7 181 Y_X6_form := Or.inr ⟨"PathTrust", wd_929⟩
theorem kV_X6_form : zkV Y_X6_form := ⟨wd_931, wd_52⟩
theorem k0_X7_statusIn : zk0 Y_X7_statusIn 2 := ⟨wd_928, wd_177, ⟨by decide, by decide, by decide +kernel⟩, rfl⟩
theorem kl_X7_155 : zkL RX7 155 Y_X7_statusIn := Or.inl wd_925
theorem kV_X7_statusIn : zkV Y_X7_statusIn := ⟨wd_927, wd_51⟩
theorem kl_X7_164 : zkL RX7 164 Y_X5_highMoved := Or.inr ⟨"PathTrust", wd_970⟩
theorem kl_X7_161 : zkL RX7 161 Y_X5_lowMoved := Or.inr ⟨"PathTrust", wd_969⟩
theorem kl_X7_158 : zkL RX7 158 Y_X1_beliefSpread := Or.inr ⟨"PathTrust", wd_968⟩
theorem th_X7_309_319_313 (K : zY) (hK : K.1.cls = RX7) : zth K 309 319 313 2 := by
  unfold zth
  rw [hK]
  exact ⟨wd_843, wd_198, ⟨"no such way", by decide +kernel⟩, at_X7_313_2.1, by decide +kernel, List.forall_mem_cons.mpr ⟨by decide +kernel, List.forall_mem_cons.mpr ⟨by decide +kernel, at_X7_313_2.2⟩⟩⟩
theorem kl_X7_170 : zkL RX7 170 Y_X5_rowOf := Or.inr ⟨"PathTrust", wd_983⟩
theorem k0_X7_checkWay : zk0 Y_X7_checkWay 1 := ⟨wd_981, wd_177, ⟨by decide, by decide, by decide +kernel⟩, rfl⟩
theorem kl_X7_167 : zkL RX7 167 Y_X7_checkWay := Or.inl wd_978
theorem kV_X7_checkWay : zkV Y_X7_checkWay := ⟨wd_980, wd_58⟩
theorem fd_X7_297 : zFd RX7 297 6 8 := ⟨(RX6, TX6, 9), rfl, by decide, zu_X6, rfl, Or.inr ⟨"PathTrust", wd_241⟩⟩
theorem fd_X7_294 : zFd RX7 294 6 7 := ⟨(RX6, TX6, 9), rfl, by decide, zu_X6, rfl, Or.inr ⟨"PathTrust", wd_239⟩⟩
theorem k0_X7_believed : zk0 Y_X7_believed 4 := ⟨wd_994, wd_177, ⟨by decide, by decide, by decide +kernel⟩, rfl⟩
theorem kl_X7_173 : zkL RX7 173 Y_X7_believed := Or.inl wd_991
theorem kV_X7_believed : zkV Y_X7_believed := ⟨wd_993, wd_59⟩
theorem k0_X6_originsWith : zk0 Y_X6_originsWith 1 := ⟨wd_1009, wd_179, ⟨by decide, by decide, by decide +kernel⟩, rfl⟩
theorem kl_X7_343 : zkL RX7 343 Y_X6_originsWith := Or.inr ⟨"PathTrust", wd_1006⟩
theorem kV_X6_originsWith : zkV Y_X6_originsWith := ⟨wd_1008, wd_61⟩
theorem k0_X7_originsOf : zk0 Y_X7_originsOf 3 := ⟨wd_1005, wd_177, ⟨by decide, by decide, by decide +kernel⟩, rfl⟩
theorem kl_X7_177 : zkL RX7 177 Y_X7_originsOf := Or.inl wd_1002
theorem kV_X7_originsOf : zkV Y_X7_originsOf := ⟨wd_1004, wd_60⟩
theorem k0_X6_largestSet : zk0 Y_X6_largestSet 0 := ⟨wd_1027, wd_179, ⟨by decide, by decide, by decide +kernel⟩, rfl⟩
theorem kl_X7_185 : zkL RX7 185 Y_X6_largestSet := Or.inr ⟨"PathTrust", wd_1024⟩
theorem kV_X6_largestSet : zkV Y_X6_largestSet := ⟨wd_1026, wd_62⟩
theorem k0_X6_highOf : zk0 Y_X6_highOf 1 := ⟨wd_1053, wd_179, ⟨by decide, by decide, by decide +kernel⟩, rfl⟩
theorem kl_X7_191 : zkL RX7 191 Y_X6_highOf := Or.inr ⟨"PathTrust", wd_1050⟩
theorem kV_X6_highOf : zkV Y_X6_highOf := ⟨wd_1052, wd_65⟩
theorem k0_X6_lowOf : zk0 Y_X6_lowOf 1 := ⟨wd_1048, wd_179, ⟨by decide, by decide, by decide +kernel⟩, rfl⟩
theorem kl_X7_188 : zkL RX7 188 Y_X6_lowOf := Or.inr ⟨"PathTrust", wd_1045⟩
theorem kV_X6_lowOf : zkV Y_X6_lowOf := ⟨wd_1047, wd_64⟩
theorem k0_X7_bestWay : zk0 Y_X7_bestWay 3 := ⟨wd_1064, wd_177, ⟨by decide, by decide, by decide +kernel⟩, rfl⟩
theorem kl_X7_194 : zkL RX7 194 Y_X7_bestWay := Or.inl wd_1061
theorem kV_X7_bestWay : zkV Y_X7_bestWay := ⟨wd_1063, wd_66⟩
theorem k0_X7_rivalsOf : zk0 Y_X7_rivalsOf 2 := ⟨wd_1075, wd_177, ⟨by decide, by decide, by decide +kernel⟩, rfl⟩
theorem kl_X7_198 : zkL RX7 198 Y_X7_rivalsOf := Or.inl wd_1072
theorem kV_X7_rivalsOf : zkV Y_X7_rivalsOf := ⟨wd_1074, wd_67⟩
theorem k0_X7_widthOf : zk0 Y_X7_widthOf 4 := ⟨wd_1086, wd_177, ⟨by decide, by decide, by decide +kernel⟩, rfl⟩
theorem kl_X7_201 : zkL RX7 201 Y_X7_widthOf := Or.inl wd_1083
theorem kV_X7_widthOf : zkV Y_X7_widthOf := ⟨wd_1085, wd_68⟩
theorem mq_X7_204 : zL (.methodLink RX7 204 Lib.Math.max.name) ∧ zL (.static Lib.Math.max.name) ∧ zL (.initialized "java/lang/Math") ∧ zL (.code Lib.Math.max.name Lib.Math.max.code 2 (some .int)) := ⟨wd_1108, wd_647, wd_196, wd_648⟩
theorem mq_X7_209 : zL (.methodLink RX7 209 Lib.Math.min.name) ∧ zL (.static Lib.Math.min.name) ∧ zL (.initialized "java/lang/Math") ∧ zL (.code Lib.Math.min.name Lib.Math.min.code 2 (some .int)) := ⟨wd_1109, wd_525, wd_196, wd_526⟩
theorem kl_X7_212 : zkL RX7 212 Y_X1_driftOf := Or.inr ⟨"PathTrust", wd_1117⟩
theorem k0_X1_accountOf : zk0 Y_X1_accountOf 2 := ⟨wd_1128, wd_180, ⟨by decide, by decide, by decide +kernel⟩, rfl⟩
theorem kl_X7_216 : zkL RX7 216 Y_X1_accountOf := Or.inr ⟨"PathTrust", wd_1125⟩
theorem kV_X1_accountOf : zkV Y_X1_accountOf := ⟨wd_1127, wd_69⟩
theorem kl_X7_224 : zkL RX7 224 Y_X1_reasonToRefuse := Or.inr ⟨"PathTrust", wd_1153⟩
theorem kl_X7_230 : zkL RX7 230 Y_X1_makeProbe := Or.inr ⟨"PathTrust", wd_1178⟩
theorem k0_X7_checkBounds : zk0 Y_X7_checkBounds 2 := ⟨wd_1177, wd_177, ⟨by decide, by decide, by decide +kernel⟩, rfl⟩
theorem kl_X7_227 : zkL RX7 227 Y_X7_checkBounds := Or.inl wd_1175
theorem k0_X1_makeRounds : zk0 Y_X1_makeRounds 1 := ⟨wd_1196, wd_180, ⟨by decide, by decide, by decide +kernel⟩, rfl⟩
theorem kl_X7_234 : zkL RX7 234 Y_X1_makeRounds := Or.inr ⟨"PathTrust", wd_1193⟩
theorem kV_X1_makeRounds : zkV Y_X1_makeRounds := ⟨wd_1195, wd_72⟩
theorem k0_X1_letPass : zk0 Y_X1_letPass 1 := ⟨wd_1235, wd_180, ⟨by decide, by decide, by decide +kernel⟩, rfl⟩
theorem kl_X7_237 : zkL RX7 237 Y_X1_letPass := Or.inr ⟨"PathTrust", wd_1232⟩
theorem kV_X1_letPass : zkV Y_X1_letPass := ⟨wd_1234, wd_79⟩
theorem k0_X7_widthSum : zk0 Y_X7_widthSum 2 := ⟨wd_1253, wd_177, ⟨by decide, by decide, by decide +kernel⟩, rfl⟩
theorem kl_X7_240 : zkL RX7 240 Y_X7_widthSum := Or.inl wd_1250
theorem kV_X7_widthSum : zkV Y_X7_widthSum := ⟨wd_1252, wd_80⟩
theorem kl_X7_243 : zkL RX7 243 Y_X1_deliverFirst := Or.inr ⟨"PathTrust", wd_1261⟩
theorem kl_X7_246 : zkL RX7 246 Y_X1_sendReports := Or.inr ⟨"PathTrust", wd_1276⟩
theorem kl_X7_251 : zkL RX7 251 Y_X5_removeFirst := Or.inr ⟨"PathTrust", wd_1299⟩
theorem th_X7_62_249_66 (K : zY) (hK : K.1.cls = RX7) : zth K 62 249 66 0 := by
  unfold zth
  rw [hK]
  exact ⟨wd_716, wd_190, ⟨"the queue is empty", by decide +kernel⟩, at_X7_66_0.1, by decide +kernel, List.forall_mem_cons.mpr ⟨by decide +kernel, List.forall_mem_cons.mpr ⟨by decide +kernel, at_X7_66_0.2⟩⟩⟩
theorem kl_X7_259 : zkL RX7 259 Y_X1_putTrust := Or.inr ⟨"PathTrust", wd_1322⟩
theorem th_X7_254_256_258 (K : zY) (hK : K.1.cls = RX7) : zth K 254 256 258 1 := by
  unfold zth
  rw [hK]
  exact ⟨wd_803, wd_191, ⟨"an agent has no link with itself", by decide +kernel⟩, at_X7_258_1.1, by decide +kernel, List.forall_mem_cons.mpr ⟨by decide +kernel, List.forall_mem_cons.mpr ⟨by decide +kernel, at_X7_258_1.2⟩⟩⟩
theorem th_X7_62_262_66 (K : zY) (hK : K.1.cls = RX7) : zth K 62 262 66 0 := by
  unfold zth
  rw [hK]
  exact ⟨wd_716, wd_190, ⟨"the agents have no link", by decide +kernel⟩, at_X7_66_0.1, by decide +kernel, List.forall_mem_cons.mpr ⟨by decide +kernel, List.forall_mem_cons.mpr ⟨by decide +kernel, at_X7_66_0.2⟩⟩⟩
theorem kl_X7_269 : zkL RX7 269 Y_X1_putRule := Or.inr ⟨"PathTrust", wd_1344⟩
theorem th_X7_254_267_258 (K : zY) (hK : K.1.cls = RX7) : zth K 254 267 258 1 := by
  unfold zth
  rw [hK]
  exact ⟨wd_803, wd_191, ⟨"no such rule or value", by decide +kernel⟩, at_X7_258_1.1, by decide +kernel, List.forall_mem_cons.mpr ⟨by decide +kernel, List.forall_mem_cons.mpr ⟨by decide +kernel, at_X7_258_1.2⟩⟩⟩
theorem k0_X7_isRuleValue : zk0 Y_X7_isRuleValue 2 := ⟨wd_1340, wd_177, ⟨by decide, by decide, by decide +kernel⟩, rfl⟩
theorem kl_X7_264 : zkL RX7 264 Y_X7_isRuleValue := Or.inl wd_1338
theorem k0_X5_removeAll : zk0 Y_X5_removeAll 2 := ⟨wd_1355, wd_182, ⟨by decide, by decide, by decide +kernel⟩, rfl⟩
theorem kl_X7_272 : zkL RX7 272 Y_X5_removeAll := Or.inr ⟨"PathTrust", wd_1352⟩
theorem kV_X5_removeAll : zkV Y_X5_removeAll := ⟨wd_1354, wd_81⟩
theorem th_X7_309_323_313 (K : zY) (hK : K.1.cls = RX7) : zth K 309 323 313 2 := by
  unfold zth
  rw [hK]
  exact ⟨wd_843, wd_198, ⟨"no such slot", by decide +kernel⟩, at_X7_313_2.1, by decide +kernel, List.forall_mem_cons.mpr ⟨by decide +kernel, List.forall_mem_cons.mpr ⟨by decide +kernel, at_X7_313_2.2⟩⟩⟩
theorem k0_X7_checkSlot : zk0 Y_X7_checkSlot 1 := ⟨wd_1375, wd_177, ⟨by decide, by decide, by decide +kernel⟩, rfl⟩
theorem kl_X7_275 : zkL RX7 275 Y_X7_checkSlot := Or.inl wd_1372
theorem kV_X7_checkSlot : zkV Y_X7_checkSlot := ⟨wd_1374, wd_82⟩
theorem th_X7_62_278_66 (K : zY) (hK : K.1.cls = RX7) : zth K 62 278 66 0 := by
  unfold zth
  rw [hK]
  exact ⟨wd_716, wd_190, ⟨"nothing is kept there", by decide +kernel⟩, at_X7_66_0.1, by decide +kernel, List.forall_mem_cons.mpr ⟨by decide +kernel, List.forall_mem_cons.mpr ⟨by decide +kernel, at_X7_66_0.2⟩⟩⟩
theorem fd_X7_280 : zFd RX7 280 2 1 := ⟨(RX2, TX2, 2), rfl, by decide, zu_X2, rfl, Or.inr ⟨"PathTrust", wd_395⟩⟩
theorem k0_X2_pop : zk0 Y_X2_pop 1 := ⟨wd_1396, wd_185, ⟨by decide, by decide, by decide +kernel⟩, rfl⟩
theorem kl_X7_283 : zkL RX7 283 Y_X2_pop := Or.inr ⟨"PathTrust", wd_1393⟩
theorem kV_X2_pop : zkV Y_X2_pop := ⟨wd_1395, wd_83⟩
theorem th_X7_62_281_66 (K : zY) (hK : K.1.cls = RX7) : zth K 62 281 66 0 := by
  unfold zth
  rw [hK]
  exact ⟨wd_716, wd_190, ⟨"nothing can be undone", by decide +kernel⟩, at_X7_66_0.1, by decide +kernel, List.forall_mem_cons.mpr ⟨by decide +kernel, List.forall_mem_cons.mpr ⟨by decide +kernel, at_X7_66_0.2⟩⟩⟩
theorem k0_X0_addNumber : zk0 Y_X0_addNumber 1 := ⟨wd_1420, wd_178, ⟨by decide, by decide, by decide +kernel⟩, rfl⟩
theorem kl_X7_303 : zkL RX7 303 Y_X0_addNumber := Or.inr ⟨"PathTrust", wd_1417⟩
theorem kV_X0_addNumber : zkV Y_X0_addNumber := ⟨wd_1419, wd_87⟩
theorem kl_X7_286 : zkL RX7 286 Y_X0_add := Or.inr ⟨"PathTrust", wd_1404⟩
theorem k0_X7_writeBounds : zk0 Y_X7_writeBounds 2 := ⟨wd_1416, wd_177, ⟨by decide, by decide, by decide +kernel⟩, rfl⟩
theorem kl_X7_300 : zkL RX7 300 Y_X7_writeBounds := Or.inl wd_1413
theorem kV_X7_writeBounds : zkV Y_X7_writeBounds := ⟨wd_1415, wd_86⟩
theorem k0_X0_addName : zk0 Y_X0_addName 1 := ⟨wd_1412, wd_178, ⟨by decide, by decide, by decide +kernel⟩, rfl⟩
theorem kl_X7_291 : zkL RX7 291 Y_X0_addName := Or.inr ⟨"PathTrust", wd_1409⟩
theorem kV_X0_addName : zkV Y_X0_addName := ⟨wd_1411, wd_85⟩
theorem k0_X3_get : zk0 Y_X3_get 1 := ⟨wd_1408, wd_181, ⟨by decide, by decide, by decide +kernel⟩, rfl⟩
theorem kl_X7_289 : zkL RX7 289 Y_X3_get := Or.inr ⟨"PathTrust", wd_1405⟩
theorem kV_X3_get : zkV Y_X3_get := ⟨wd_1407, wd_84⟩
theorem fp_X7_writeBeliefs_58 : zFp Y_X7_writeBeliefs 58 0 1 0 := ⟨(RX0, TX0, 2), tyX0, rfl, tyX0_ok, nmX0, rfl, rfl, Or.inl rfl⟩
theorem k0_X7_writeStatus : zk0 Y_X7_writeStatus 1 := ⟨wd_1432, wd_177, ⟨by decide, by decide, by decide +kernel⟩, rfl⟩
theorem kl_X7_306 : zkL RX7 306 Y_X7_writeStatus := Or.inl wd_1429
theorem kV_X7_writeStatus : zkV Y_X7_writeStatus := ⟨wd_1431, wd_88⟩
theorem fp_X7_writeReports_58 : zFp Y_X7_writeReports 58 0 1 0 := ⟨(RX0, TX0, 2), tyX0, rfl, tyX0_ok, nmX0, rfl, rfl, Or.inl rfl⟩
theorem th_X7_309_311_313 (K : zY) (hK : K.1.cls = RX7) : zth K 309 311 313 2 := by
  unfold zth
  rw [hK]
  exact ⟨wd_843, wd_198, ⟨"no such byte", by decide +kernel⟩, at_X7_313_2.1, by decide +kernel, List.forall_mem_cons.mpr ⟨by decide +kernel, List.forall_mem_cons.mpr ⟨by decide +kernel, at_X7_313_2.2⟩⟩⟩
theorem kl_X7_314 : zkL RX7 314 Y_X0_at := Or.inr ⟨"PathTrust", wd_1441⟩
theorem zu_X8 : ∀ w ∈ u_ws RX8 TX8 28, zL w := List.forall_mem_cons.mpr ⟨wd_1483, List.forall_mem_cons.mpr ⟨wd_1485, List.forall_mem_cons.mpr ⟨wd_1487, List.forall_mem_cons.mpr ⟨wd_1489, List.forall_mem_cons.mpr ⟨wd_1491, List.forall_mem_cons.mpr ⟨wd_1493, List.forall_mem_cons.mpr ⟨wd_1495, List.forall_mem_cons.mpr ⟨wd_1497, List.forall_mem_cons.mpr ⟨wd_1499, List.forall_mem_cons.mpr ⟨wd_1501, List.forall_mem_cons.mpr ⟨wd_1503, List.forall_mem_cons.mpr ⟨wd_1505, List.forall_mem_cons.mpr ⟨wd_1507, List.forall_mem_cons.mpr ⟨wd_1509, List.forall_mem_cons.mpr ⟨wd_1511, List.forall_mem_cons.mpr ⟨wd_1513, List.forall_mem_cons.mpr ⟨wd_1515, List.forall_mem_cons.mpr ⟨wd_1517, List.forall_mem_cons.mpr ⟨wd_1519, List.forall_mem_cons.mpr ⟨wd_1521, List.forall_mem_cons.mpr ⟨wd_1523, List.forall_mem_cons.mpr ⟨wd_1525, List.forall_mem_cons.mpr ⟨wd_1527, List.forall_mem_cons.mpr ⟨wd_1529, List.forall_mem_cons.mpr ⟨wd_1531, List.forall_mem_cons.mpr ⟨wd_1533, List.forall_mem_cons.mpr ⟨wd_1535, List.forall_mem_cons.mpr ⟨wd_1537, fun _ h => nomatch h⟩⟩⟩⟩⟩⟩⟩⟩⟩⟩⟩⟩⟩⟩⟩⟩⟩⟩⟩⟩⟩⟩⟩⟩⟩⟩⟩⟩
theorem fd_X8_3 : zFd RX8 3 8 0 := ⟨(RX8, TX8, 28), rfl, by decide, zu_X8, rfl, Or.inl wd_1455⟩
theorem fp_X8_passes3_3 : zFp Y_X8_passes3 3 8 0 0 := ⟨(RX8, TX8, 28), tyX8, rfl, tyX8_ok, nmX8, rfl, rfl, Or.inl rfl⟩
theorem k0_X8_passes3 : zk0 Y_X8_passes3 3 := ⟨wd_1552, wd_186, ⟨by decide, by decide, by decide +kernel⟩, rfl⟩
theorem kl_X8_7 : zkL RX8 7 Y_X8_passes3 := Or.inl wd_1549
theorem kV_X8_passes3 : zkV Y_X8_passes3 := ⟨wd_1551, wd_90⟩
theorem oi_X8_11 : zL (.methodLink RX8 11 objectInit) ∧ zL (.instanceMethod objectInit) ∧ zL (.code objectInit ⟨#[0xb1]⟩ 1 none) := ⟨wd_1451, wd_207, wd_208⟩
theorem fd_X8_17 : zFd RX8 17 8 1 := ⟨(RX8, TX8, 28), rfl, by decide, zu_X8, rfl, Or.inl wd_1456⟩
theorem fp_X8_init_17 : zFp Y_X8_init 17 8 1 4 := ⟨(RX8, TX8, 28), tyX8, rfl, tyX8_ok, nmX8, rfl, Or.inr ⟨_, rfl⟩, Or.inr ⟨rfl, rfl, rfl, wd_1456⟩⟩
theorem fd_X8_21 : zFd RX8 21 8 2 := ⟨(RX8, TX8, 28), rfl, by decide, zu_X8, rfl, Or.inl wd_1457⟩
theorem fp_X8_init_21 : zFp Y_X8_init 21 8 2 4 := ⟨(RX8, TX8, 28), tyX8, rfl, tyX8_ok, nmX8, rfl, Or.inr ⟨_, rfl⟩, Or.inr ⟨rfl, rfl, rfl, wd_1457⟩⟩
theorem fd_X8_24 : zFd RX8 24 8 3 := ⟨(RX8, TX8, 28), rfl, by decide, zu_X8, rfl, Or.inl wd_1458⟩
theorem fp_X8_init_24 : zFp Y_X8_init 24 8 3 4 := ⟨(RX8, TX8, 28), tyX8, rfl, tyX8_ok, nmX8, rfl, Or.inr ⟨_, rfl⟩, Or.inl rfl⟩
theorem fd_X8_27 : zFd RX8 27 8 4 := ⟨(RX8, TX8, 28), rfl, by decide, zu_X8, rfl, Or.inl wd_1459⟩
theorem fp_X8_init_27 : zFp Y_X8_init 27 8 4 0 := ⟨(RX8, TX8, 28), tyX8, rfl, tyX8_ok, nmX8, rfl, rfl, Or.inl rfl⟩
theorem fd_X8_30 : zFd RX8 30 8 7 := ⟨(RX8, TX8, 28), rfl, by decide, zu_X8, rfl, Or.inl wd_1462⟩
theorem fp_X8_init_30 : zFp Y_X8_init 30 8 7 4 := ⟨(RX8, TX8, 28), tyX8, rfl, tyX8_ok, nmX8, rfl, Or.inr ⟨_, rfl⟩, Or.inr ⟨rfl, rfl, rfl, wd_1462⟩⟩
theorem fd_X8_33 : zFd RX8 33 8 8 := ⟨(RX8, TX8, 28), rfl, by decide, zu_X8, rfl, Or.inl wd_1463⟩
theorem fp_X8_init_33 : zFp Y_X8_init 33 8 8 4 := ⟨(RX8, TX8, 28), tyX8, rfl, tyX8_ok, nmX8, rfl, Or.inr ⟨_, rfl⟩, Or.inr ⟨rfl, rfl, rfl, wd_1463⟩⟩
theorem fd_X8_37 : zFd RX8 37 8 9 := ⟨(RX8, TX8, 28), rfl, by decide, zu_X8, rfl, Or.inl wd_1464⟩
theorem fp_X8_init_37 : zFp Y_X8_init 37 8 9 4 := ⟨(RX8, TX8, 28), tyX8, rfl, tyX8_ok, nmX8, rfl, Or.inr ⟨_, rfl⟩, Or.inr ⟨rfl, rfl, rfl, wd_1464⟩⟩
theorem fd_X8_40 : zFd RX8 40 8 10 := ⟨(RX8, TX8, 28), rfl, by decide, zu_X8, rfl, Or.inl wd_1465⟩
theorem fp_X8_init_40 : zFp Y_X8_init 40 8 10 4 := ⟨(RX8, TX8, 28), tyX8, rfl, tyX8_ok, nmX8, rfl, Or.inr ⟨_, rfl⟩, Or.inr ⟨rfl, rfl, rfl, wd_1465⟩⟩
theorem fd_X8_44 : zFd RX8 44 8 18 := ⟨(RX8, TX8, 28), rfl, by decide, zu_X8, rfl, Or.inl wd_1473⟩
theorem fp_X8_init_44 : zFp Y_X8_init 44 8 18 0 := ⟨(RX8, TX8, 28), tyX8, rfl, tyX8_ok, nmX8, rfl, rfl, Or.inl rfl⟩
theorem fd_X8_47 : zFd RX8 47 8 21 := ⟨(RX8, TX8, 28), rfl, by decide, zu_X8, rfl, Or.inl wd_1476⟩
theorem fp_X8_init_47 : zFp Y_X8_init 47 8 21 4 := ⟨(RX8, TX8, 28), tyX8, rfl, tyX8_ok, nmX8, rfl, Or.inr ⟨_, rfl⟩, Or.inr ⟨rfl, rfl, rfl, wd_1476⟩⟩
theorem fd_X8_50 : zFd RX8 50 8 22 := ⟨(RX8, TX8, 28), rfl, by decide, zu_X8, rfl, Or.inl wd_1477⟩
theorem fp_X8_init_50 : zFp Y_X8_init 50 8 22 4 := ⟨(RX8, TX8, 28), tyX8, rfl, tyX8_ok, nmX8, rfl, Or.inr ⟨_, rfl⟩, Or.inr ⟨rfl, rfl, rfl, wd_1477⟩⟩
theorem fd_X8_53 : zFd RX8 53 8 23 := ⟨(RX8, TX8, 28), rfl, by decide, zu_X8, rfl, Or.inl wd_1478⟩
theorem fp_X8_init_53 : zFp Y_X8_init 53 8 23 4 := ⟨(RX8, TX8, 28), tyX8, rfl, tyX8_ok, nmX8, rfl, Or.inr ⟨_, rfl⟩, Or.inr ⟨rfl, rfl, rfl, wd_1478⟩⟩
theorem fd_X8_56 : zFd RX8 56 8 24 := ⟨(RX8, TX8, 28), rfl, by decide, zu_X8, rfl, Or.inl wd_1479⟩
theorem fp_X8_init_56 : zFp Y_X8_init 56 8 24 4 := ⟨(RX8, TX8, 28), tyX8, rfl, tyX8_ok, nmX8, rfl, Or.inr ⟨_, rfl⟩, Or.inr ⟨rfl, rfl, rfl, wd_1479⟩⟩
theorem fd_X8_59 : zFd RX8 59 8 26 := ⟨(RX8, TX8, 28), rfl, by decide, zu_X8, rfl, Or.inl wd_1481⟩
theorem fp_X8_init_59 : zFp Y_X8_init 59 8 26 4 := ⟨(RX8, TX8, 28), tyX8, rfl, tyX8_ok, nmX8, rfl, Or.inr ⟨_, rfl⟩, Or.inr ⟨rfl, rfl, rfl, wd_1481⟩⟩
theorem k0_X8_clear : zk0 Y_X8_clear 1 := ⟨wd_1454, wd_186, ⟨by decide, by decide, by decide +kernel⟩, rfl⟩
theorem kl_X8_62 : zkL RX8 62 Y_X8_clear := Or.inl wd_1452
theorem k0_X8_in : zk0 Y_X8_in 3 := ⟨wd_1563, wd_186, ⟨by decide, by decide, by decide +kernel⟩, rfl⟩
theorem kl_X8_70 : zkL RX8 70 Y_X8_in := Or.inl wd_1561
theorem k0_X8_agents : zk0 Y_X8_agents 0 := ⟨wd_1749, wd_186, ⟨by decide, by decide, by decide +kernel⟩, rfl⟩
theorem kl_X8_66 : zkL RX8 66 Y_X8_agents := Or.inl wd_1746
theorem kV_X8_agents : zkV Y_X8_agents := ⟨wd_1748, wd_128⟩
theorem k0_X8_ways : zk0 Y_X8_ways 0 := ⟨wd_1774, wd_186, ⟨by decide, by decide, by decide +kernel⟩, rfl⟩
theorem kl_X8_74 : zkL RX8 74 Y_X8_ways := Or.inl wd_1771
theorem kV_X8_ways : zkV Y_X8_ways := ⟨wd_1773, wd_130⟩
theorem k0_X8_trustOf : zk0 Y_X8_trustOf 2 := ⟨wd_1664, wd_186, ⟨by decide, by decide, by decide +kernel⟩, rfl⟩
theorem kl_X8_77 : zkL RX8 77 Y_X8_trustOf := Or.inl wd_1661
theorem kV_X8_trustOf : zkV Y_X8_trustOf := ⟨wd_1663, wd_110⟩
theorem k0_X8_listAt : zk0 Y_X8_listAt 1 := ⟨wd_1691, wd_186, ⟨by decide, by decide, by decide +kernel⟩, rfl⟩
theorem kl_X8_81 : zkL RX8 81 Y_X8_listAt := Or.inl wd_1689
theorem k0_X8_reportAt : zk0 Y_X8_reportAt 2 := ⟨wd_1698, wd_186, ⟨by decide, by decide, by decide +kernel⟩, rfl⟩
theorem kl_X8_85 : zkL RX8 85 Y_X8_reportAt := Or.inl wd_1696
theorem k0_X8_manyOf : zk0 Y_X8_manyOf 1 := ⟨wd_1688, wd_186, ⟨by decide, by decide, by decide +kernel⟩, rfl⟩
theorem kl_X8_92 : zkL RX8 92 Y_X8_manyOf := Or.inl wd_1685
theorem kV_X8_manyOf : zkV Y_X8_manyOf := ⟨wd_1687, wd_116⟩
theorem k0_X8_isAgent : zk0 Y_X8_isAgent 1 := ⟨wd_1806, wd_186, ⟨by decide, by decide, by decide +kernel⟩, rfl⟩
theorem kl_X8_88 : zkL RX8 88 Y_X8_isAgent := Or.inl wd_1803
theorem kV_X8_isAgent : zkV Y_X8_isAgent := ⟨wd_1805, wd_135⟩
theorem k0_X8_ofReport : zk0 Y_X8_ofReport 3 := ⟨wd_1695, wd_186, ⟨by decide, by decide, by decide +kernel⟩, rfl⟩
theorem kl_X8_95 : zkL RX8 95 Y_X8_ofReport := Or.inl wd_1692
theorem kV_X8_ofReport : zkV Y_X8_ofReport := ⟨wd_1694, wd_117⟩
theorem k0_X8_reportOf : zk0 Y_X8_reportOf 3 := ⟨wd_1684, wd_186, ⟨by decide, by decide, by decide +kernel⟩, rfl⟩
theorem kl_X8_99 : zkL RX8 99 Y_X8_reportOf := Or.inl wd_1681
theorem kV_X8_reportOf : zkV Y_X8_reportOf := ⟨wd_1683, wd_115⟩
theorem mq_X8_102 : zL (.methodLink RX8 102 Lib.Math.max.name) ∧ zL (.static Lib.Math.max.name) ∧ zL (.initialized "java/lang/Math") ∧ zL (.code Lib.Math.max.name Lib.Math.max.code 2 (some .int)) := ⟨wd_1734, wd_647, wd_196, wd_648⟩
theorem mq_X8_107 : zL (.methodLink RX8 107 Lib.Math.min.name) ∧ zL (.static Lib.Math.min.name) ∧ zL (.initialized "java/lang/Math") ∧ zL (.code Lib.Math.min.name Lib.Math.min.code 2 (some .int)) := ⟨wd_1580, wd_525, wd_196, wd_526⟩
theorem k0_X8_ageAt : zk0 Y_X8_ageAt 1 := ⟨wd_1726, wd_186, ⟨by decide, by decide, by decide +kernel⟩, rfl⟩
theorem kl_X8_113 : zkL RX8 113 Y_X8_ageAt := Or.inl wd_1723
theorem kV_X8_ageAt : zkV Y_X8_ageAt := ⟨wd_1725, wd_124⟩
theorem k0_X8_rule : zk0 Y_X8_rule 1 := ⟨wd_1722, wd_186, ⟨by decide, by decide, by decide +kernel⟩, rfl⟩
theorem kl_X8_110 : zkL RX8 110 Y_X8_rule := Or.inl wd_1719
theorem kV_X8_rule : zkV Y_X8_rule := ⟨wd_1721, wd_123⟩
theorem k0_X8_lower : zk0 Y_X8_lower 2 := ⟨wd_1733, wd_186, ⟨by decide, by decide, by decide +kernel⟩, rfl⟩
theorem kl_X8_116 : zkL RX8 116 Y_X8_lower := Or.inl wd_1731
theorem k0_X8_higher : zk0 Y_X8_higher 2 := ⟨wd_1741, wd_186, ⟨by decide, by decide, by decide +kernel⟩, rfl⟩
theorem kl_X8_119 : zkL RX8 119 Y_X8_higher := Or.inl wd_1739
theorem k0_X8_topBy : zk0 Y_X8_topBy 3 := ⟨wd_1738, wd_186, ⟨by decide, by decide, by decide +kernel⟩, rfl⟩
theorem kl_X8_128 : zkL RX8 128 Y_X8_topBy := Or.inl wd_1735
theorem kV_X8_topBy : zkV Y_X8_topBy := ⟨wd_1737, wd_126⟩
theorem k0_X8_driftOf : zk0 Y_X8_driftOf 2 := ⟨wd_1718, wd_186, ⟨by decide, by decide, by decide +kernel⟩, rfl⟩
theorem kl_X8_122 : zkL RX8 122 Y_X8_driftOf := Or.inl wd_1715
theorem kV_X8_driftOf : zkV Y_X8_driftOf := ⟨wd_1717, wd_122⟩
theorem k0_X8_lowBy : zk0 Y_X8_lowBy 3 := ⟨wd_1730, wd_186, ⟨by decide, by decide, by decide +kernel⟩, rfl⟩
theorem kl_X8_125 : zkL RX8 125 Y_X8_lowBy := Or.inl wd_1727
theorem kV_X8_lowBy : zkV Y_X8_lowBy := ⟨wd_1729, wd_125⟩
theorem k0_X8_count : zk0 Y_X8_count 2 := ⟨wd_1706, wd_186, ⟨by decide, by decide, by decide +kernel⟩, rfl⟩
theorem kl_X8_143 : zkL RX8 143 Y_X8_count := Or.inl wd_1703
theorem kV_X8_count : zkV Y_X8_count := ⟨wd_1705, wd_119⟩
theorem k0_X8_putTrust : zk0 Y_X8_putTrust 3 := ⟨wd_1668, wd_186, ⟨by decide, by decide, by decide +kernel⟩, rfl⟩
theorem kl_X8_139 : zkL RX8 139 Y_X8_putTrust := Or.inl wd_1665
theorem kV_X8_putTrust : zkV Y_X8_putTrust := ⟨wd_1667, wd_111⟩
theorem k0_X8_doMeet : zk0 Y_X8_doMeet 3 := ⟨wd_1714, wd_186, ⟨by decide, by decide, by decide +kernel⟩, rfl⟩
theorem kl_X8_135 : zkL RX8 135 Y_X8_doMeet := Or.inl wd_1711
theorem kV_X8_doMeet : zkV Y_X8_doMeet := ⟨wd_1713, wd_121⟩
theorem k0_X8_areLinked : zk0 Y_X8_areLinked 2 := ⟨wd_1660, wd_186, ⟨by decide, by decide, by decide +kernel⟩, rfl⟩
theorem kl_X8_131 : zkL RX8 131 Y_X8_areLinked := Or.inl wd_1657
theorem kV_X8_areLinked : zkV Y_X8_areLinked := ⟨wd_1659, wd_109⟩
theorem k0_X8_dropReport : zk0 Y_X8_dropReport 2 := ⟨wd_1702, wd_186, ⟨by decide, by decide, by decide +kernel⟩, rfl⟩
theorem kl_X8_147 : zkL RX8 147 Y_X8_dropReport := Or.inl wd_1699
theorem kV_X8_dropReport : zkV Y_X8_dropReport := ⟨wd_1701, wd_118⟩
theorem k0_X8_judges : zk0 Y_X8_judges 3 := ⟨wd_1710, wd_186, ⟨by decide, by decide, by decide +kernel⟩, rfl⟩
theorem kl_X8_154 : zkL RX8 154 Y_X8_judges := Or.inl wd_1707
theorem kV_X8_judges : zkV Y_X8_judges := ⟨wd_1709, wd_120⟩
theorem k0_X8_comes : zk0 Y_X8_comes 7 := ⟨wd_1680, wd_186, ⟨by decide, by decide, by decide +kernel⟩, rfl⟩
theorem kl_X8_150 : zkL RX8 150 Y_X8_comes := Or.inl wd_1677
theorem kV_X8_comes : zkV Y_X8_comes := ⟨wd_1679, wd_114⟩
theorem k0_X8_messageAt : zk0 Y_X8_messageAt 1 := ⟨wd_1976, wd_186, ⟨by decide, by decide, by decide +kernel⟩, rfl⟩
theorem kl_X8_157 : zkL RX8 157 Y_X8_messageAt := Or.inl wd_1974
theorem k0_X8_queued : zk0 Y_X8_queued 0 := ⟨wd_1783, wd_186, ⟨by decide, by decide, by decide +kernel⟩, rfl⟩
theorem kl_X8_160 : zkL RX8 160 Y_X8_queued := Or.inl wd_1780
theorem kV_X8_queued : zkV Y_X8_queued := ⟨wd_1782, wd_131⟩
theorem k0_X8_ofMessage : zk0 Y_X8_ofMessage 2 := ⟨wd_1973, wd_186, ⟨by decide, by decide, by decide +kernel⟩, rfl⟩
theorem kl_X8_163 : zkL RX8 163 Y_X8_ofMessage := Or.inl wd_1970
theorem kV_X8_ofMessage : zkV Y_X8_ofMessage := ⟨wd_1972, wd_156⟩
theorem k0_X8_dropFirst : zk0 Y_X8_dropFirst 0 := ⟨wd_2048, wd_186, ⟨by decide, by decide, by decide +kernel⟩, rfl⟩
theorem kl_X8_172 : zkL RX8 172 Y_X8_dropFirst := Or.inl wd_2045
theorem kV_X8_dropFirst : zkV Y_X8_dropFirst := ⟨wd_2047, wd_169⟩
theorem k0_X8_ownOf : zk0 Y_X8_ownOf 2 := ⟨wd_1899, wd_186, ⟨by decide, by decide, by decide +kernel⟩, rfl⟩
theorem kl_X8_169 : zkL RX8 169 Y_X8_ownOf := Or.inl wd_1896
theorem kV_X8_ownOf : zkV Y_X8_ownOf := ⟨wd_1898, wd_148⟩
theorem k0_X8_refusalOf : zk0 Y_X8_refusalOf 1 := ⟨wd_1980, wd_186, ⟨by decide, by decide, by decide +kernel⟩, rfl⟩
theorem kl_X8_166 : zkL RX8 166 Y_X8_refusalOf := Or.inl wd_1977
theorem kV_X8_refusalOf : zkV Y_X8_refusalOf := ⟨wd_1979, wd_157⟩
theorem k0_X8_delivers : zk0 Y_X8_delivers 0 := ⟨wd_2044, wd_186, ⟨by decide, by decide, by decide +kernel⟩, rfl⟩
theorem kl_X8_175 : zkL RX8 175 Y_X8_delivers := Or.inl wd_2041
theorem kV_X8_delivers : zkV Y_X8_delivers := ⟨wd_2043, wd_168⟩
theorem k0_X8_isOwn : zk0 Y_X8_isOwn 2 := ⟨wd_1863, wd_186, ⟨by decide, by decide, by decide +kernel⟩, rfl⟩
theorem kl_X8_179 : zkL RX8 179 Y_X8_isOwn := Or.inl wd_1860
theorem kV_X8_isOwn : zkV Y_X8_isOwn := ⟨wd_1862, wd_141⟩
theorem k0_X8_trustInVia : zk0 Y_X8_trustInVia 2 := ⟨wd_1867, wd_186, ⟨by decide, by decide, by decide +kernel⟩, rfl⟩
theorem kl_X8_182 : zkL RX8 182 Y_X8_trustInVia := Or.inl wd_1864
theorem kV_X8_trustInVia : zkV Y_X8_trustInVia := ⟨wd_1866, wd_142⟩
theorem k0_X8_isAhead : zk0 Y_X8_isAhead 3 := ⟨wd_1875, wd_186, ⟨by decide, by decide, by decide +kernel⟩, rfl⟩
theorem kl_X8_185 : zkL RX8 185 Y_X8_isAhead := Or.inl wd_1872
theorem kV_X8_isAhead : zkV Y_X8_isAhead := ⟨wd_1874, wd_144⟩
theorem fd_X8_191 : zFd RX8 191 8 6 := ⟨(RX8, TX8, 28), rfl, by decide, zu_X8, rfl, Or.inl wd_1461⟩
theorem fp_X8_layBelief_191 : zFp Y_X8_layBelief 191 8 6 0 := ⟨(RX8, TX8, 28), tyX8, rfl, tyX8_ok, nmX8, rfl, rfl, Or.inl rfl⟩
theorem k0_X8_nextReport : zk0 Y_X8_nextReport 1 := ⟨wd_1871, wd_186, ⟨by decide, by decide, by decide +kernel⟩, rfl⟩
theorem kl_X8_197 : zkL RX8 197 Y_X8_nextReport := Or.inl wd_1868
theorem kV_X8_nextReport : zkV Y_X8_nextReport := ⟨wd_1870, wd_143⟩
theorem fd_X8_188 : zFd RX8 188 8 5 := ⟨(RX8, TX8, 28), rfl, by decide, zu_X8, rfl, Or.inl wd_1460⟩
theorem fp_X8_layBelief_188 : zFp Y_X8_layBelief 188 8 5 0 := ⟨(RX8, TX8, 28), tyX8, rfl, tyX8_ok, nmX8, rfl, rfl, Or.inl rfl⟩
theorem k0_X8_movedBy : zk0 Y_X8_movedBy 2 := ⟨wd_1879, wd_186, ⟨by decide, by decide, by decide +kernel⟩, rfl⟩
theorem kl_X8_200 : zkL RX8 200 Y_X8_movedBy := Or.inl wd_1876
theorem kV_X8_movedBy : zkV Y_X8_movedBy := ⟨wd_1878, wd_145⟩
theorem k0_X8_isOut : zk0 Y_X8_isOut 2 := ⟨wd_1859, wd_186, ⟨by decide, by decide, by decide +kernel⟩, rfl⟩
theorem kl_X8_194 : zkL RX8 194 Y_X8_isOut := Or.inl wd_1856
theorem kV_X8_isOut : zkV Y_X8_isOut := ⟨wd_1858, wd_140⟩
theorem k0_X8_layBelief : zk0 Y_X8_layBelief 2 := ⟨wd_1855, wd_186, ⟨by decide, by decide, by decide +kernel⟩, rfl⟩
theorem kl_X8_203 : zkL RX8 203 Y_X8_layBelief := Or.inl wd_1852
theorem kV_X8_layBelief : zkV Y_X8_layBelief := ⟨wd_1854, wd_139⟩
theorem k0_X8_valueOf : zk0 Y_X8_valueOf 3 := ⟨wd_1932, wd_186, ⟨by decide, by decide, by decide +kernel⟩, rfl⟩
theorem kl_X8_206 : zkL RX8 206 Y_X8_valueOf := Or.inl wd_1929
theorem kV_X8_valueOf : zkV Y_X8_valueOf := ⟨wd_1931, wd_152⟩
theorem k0_X8_bestOf : zk0 Y_X8_bestOf 2 := ⟨wd_1928, wd_186, ⟨by decide, by decide, by decide +kernel⟩, rfl⟩
theorem kl_X8_209 : zkL RX8 209 Y_X8_bestOf := Or.inl wd_1925
theorem kV_X8_bestOf : zkV Y_X8_bestOf := ⟨wd_1927, wd_151⟩
theorem fd_X8_212 : zFd RX8 212 8 11 := ⟨(RX8, TX8, 28), rfl, by decide, zu_X8, rfl, Or.inl wd_1466⟩
theorem fp_X8_appendFour_212 : zFp Y_X8_appendFour 212 8 11 0 := ⟨(RX8, TX8, 28), tyX8, rfl, tyX8_ok, nmX8, rfl, rfl, Or.inl rfl⟩
theorem k0_X8_appendFour : zk0 Y_X8_appendFour 1 := ⟨wd_1556, wd_186, ⟨by decide, by decide, by decide +kernel⟩, rfl⟩
theorem kl_X8_219 : zkL RX8 219 Y_X8_appendFour := Or.inl wd_1553
theorem kV_X8_appendFour : zkV Y_X8_appendFour := ⟨wd_1555, wd_91⟩
theorem k0_X8_passes : zk0 Y_X8_passes 1 := ⟨wd_1548, wd_186, ⟨by decide, by decide, by decide +kernel⟩, rfl⟩
theorem kl_X8_215 : zkL RX8 215 Y_X8_passes := Or.inl wd_1545
theorem kV_X8_passes : zkV Y_X8_passes := ⟨wd_1547, wd_89⟩
theorem fp_X8_truncate_212 : zFp Y_X8_truncate 212 8 11 0 := ⟨(RX8, TX8, 28), tyX8, rfl, tyX8_ok, nmX8, rfl, rfl, Or.inl rfl⟩
theorem fd_X8_223 : zFd RX8 223 8 17 := ⟨(RX8, TX8, 28), rfl, by decide, zu_X8, rfl, Or.inl wd_1472⟩
theorem fp_X8_errs_223 : zFp Y_X8_errs 223 8 17 0 := ⟨(RX8, TX8, 28), tyX8, rfl, tyX8_ok, nmX8, rfl, rfl, Or.inl rfl⟩
theorem fd_X8_229 : zFd RX8 229 8 14 := ⟨(RX8, TX8, 28), rfl, by decide, zu_X8, rfl, Or.inl wd_1469⟩
theorem fp_X8_errs_44 : zFp Y_X8_errs 44 8 18 0 := ⟨(RX8, TX8, 28), tyX8, rfl, tyX8_ok, nmX8, rfl, rfl, Or.inl rfl⟩
theorem k0_X8_good : zk0 Y_X8_good 0 := ⟨wd_1593, wd_186, ⟨by decide, by decide, by decide +kernel⟩, rfl⟩
theorem kl_X8_226 : zkL RX8 226 Y_X8_good := Or.inl wd_1590
theorem kV_X8_good : zkV Y_X8_good := ⟨wd_1592, wd_96⟩
theorem fd_X8_232 : zFd RX8 232 8 12 := ⟨(RX8, TX8, 28), rfl, by decide, zu_X8, rfl, Or.inl wd_1467⟩
theorem fd_X8_235 : zFd RX8 235 8 13 := ⟨(RX8, TX8, 28), rfl, by decide, zu_X8, rfl, Or.inl wd_1468⟩
theorem fp_X8_scan_235 : zFp Y_X8_scan 235 8 13 0 := ⟨(RX8, TX8, 28), tyX8, rfl, tyX8_ok, nmX8, rfl, rfl, Or.inl rfl⟩
theorem fd_X8_241 : zFd RX8 241 8 15 := ⟨(RX8, TX8, 28), rfl, by decide, zu_X8, rfl, Or.inl wd_1470⟩
theorem fp_X8_scan_241 : zFp Y_X8_scan 241 8 15 0 := ⟨(RX8, TX8, 28), tyX8, rfl, tyX8_ok, nmX8, rfl, rfl, Or.inl rfl⟩
theorem fd_X8_252 : zFd RX8 252 8 16 := ⟨(RX8, TX8, 28), rfl, by decide, zu_X8, rfl, Or.inl wd_1471⟩
theorem fp_X8_scan_252 : zFp Y_X8_scan 252 8 16 0 := ⟨(RX8, TX8, 28), tyX8, rfl, tyX8_ok, nmX8, rfl, rfl, Or.inl rfl⟩
theorem k0_X8_byteAt : zk0 Y_X8_byteAt 1 := ⟨wd_1575, wd_186, ⟨by decide, by decide, by decide +kernel⟩, rfl⟩
theorem kl_X8_238 : zkL RX8 238 Y_X8_byteAt := Or.inl wd_1572
theorem kV_X8_byteAt : zkV Y_X8_byteAt := ⟨wd_1574, wd_93⟩
theorem fp_X8_scan_229 : zFp Y_X8_scan 229 8 14 0 := ⟨(RX8, TX8, 28), tyX8, rfl, tyX8_ok, nmX8, rfl, rfl, Or.inl rfl⟩
theorem k0_X8_scan : zk0 Y_X8_scan 0 := ⟨wd_1571, wd_186, ⟨by decide, by decide, by decide +kernel⟩, rfl⟩
theorem kl_X8_255 : zkL RX8 255 Y_X8_scan := Or.inl wd_1568
theorem kV_X8_scan : zkV Y_X8_scan := ⟨wd_1570, wd_92⟩
theorem sh_X8_263 : zsh RX8 263 := wd_1595
theorem sl_X8_258 : zsl RX8 258 := wd_1594
theorem k0_X8_goOn : zk0 Y_X8_goOn 0 := ⟨wd_1603, wd_186, ⟨by decide, by decide, by decide +kernel⟩, rfl⟩
theorem kl_X8_270 : zkL RX8 270 Y_X8_goOn := Or.inl wd_1600
theorem kV_X8_goOn : zkV Y_X8_goOn := ⟨wd_1602, wd_98⟩
theorem k0_X8_errs : zk0 Y_X8_errs 1 := ⟨wd_1599, wd_186, ⟨by decide, by decide, by decide +kernel⟩, rfl⟩
theorem kl_X8_267 : zkL RX8 267 Y_X8_errs := Or.inl wd_1596
theorem kV_X8_errs : zkV Y_X8_errs := ⟨wd_1598, wd_97⟩
theorem k0_X8_number : zk0 Y_X8_number 2 := ⟨wd_1612, wd_186, ⟨by decide, by decide, by decide +kernel⟩, rfl⟩
theorem kl_X8_277 : zkL RX8 277 Y_X8_number := Or.inl wd_1609
theorem kV_X8_number : zkV Y_X8_number := ⟨wd_1611, wd_100⟩
theorem k0_X8_isWord : zk0 Y_X8_isWord 1 := ⟨wd_1589, wd_186, ⟨by decide, by decide, by decide +kernel⟩, rfl⟩
theorem kl_X8_273 : zkL RX8 273 Y_X8_isWord := Or.inl wd_1586
theorem kV_X8_isWord : zkV Y_X8_isWord := ⟨wd_1588, wd_95⟩
theorem k0_X8_nameOf : zk0 Y_X8_nameOf 3 := ⟨wd_1644, wd_186, ⟨by decide, by decide, by decide +kernel⟩, rfl⟩
theorem kl_X8_305 : zkL RX8 305 Y_X8_nameOf := Or.inl wd_1642
theorem k0_X8_isKeyword : zk0 Y_X8_isKeyword 0 := ⟨wd_1637, wd_186, ⟨by decide, by decide, by decide +kernel⟩, rfl⟩
theorem kl_X8_302 : zkL RX8 302 Y_X8_isKeyword := Or.inl wd_1634
theorem kV_X8_isKeyword : zkV Y_X8_isKeyword := ⟨wd_1636, wd_105⟩
theorem k0_X8_numberBehind : zk0 Y_X8_numberBehind 3 := ⟨wd_1608, wd_186, ⟨by decide, by decide, by decide +kernel⟩, rfl⟩
theorem kl_X8_309 : zkL RX8 309 Y_X8_numberBehind := Or.inl wd_1605
theorem kV_X8_numberBehind : zkV Y_X8_numberBehind := ⟨wd_1607, wd_99⟩
theorem k0_X8_withName : zk0 Y_X8_withName 3 := ⟨wd_1648, wd_186, ⟨by decide, by decide, by decide +kernel⟩, rfl⟩
theorem kl_X8_316 : zkL RX8 316 Y_X8_withName := Or.inl wd_1645
theorem kV_X8_withName : zkV Y_X8_withName := ⟨wd_1647, wd_106⟩
theorem k0_X8_nameHere : zk0 Y_X8_nameHere 0 := ⟨wd_1633, wd_186, ⟨by decide, by decide, by decide +kernel⟩, rfl⟩
theorem kl_X8_313 : zkL RX8 313 Y_X8_nameHere := Or.inl wd_1630
theorem kV_X8_nameHere : zkV Y_X8_nameHere := ⟨wd_1632, wd_104⟩
theorem k0_X8_told : zk0 Y_X8_told 2 := ⟨wd_1656, wd_186, ⟨by decide, by decide, by decide +kernel⟩, rfl⟩
theorem kl_X8_319 : zkL RX8 319 Y_X8_told := Or.inl wd_1653
theorem kV_X8_told : zkV Y_X8_told := ⟨wd_1655, wd_108⟩
theorem k0_X8_doProbe : zk0 Y_X8_doProbe 4 := ⟨wd_1676, wd_186, ⟨by decide, by decide, by decide +kernel⟩, rfl⟩
theorem kl_X8_322 : zkL RX8 322 Y_X8_doProbe := Or.inl wd_1673
theorem kV_X8_doProbe : zkV Y_X8_doProbe := ⟨wd_1675, wd_113⟩
theorem k0_X8_semicolon : zk0 Y_X8_semicolon 0 := ⟨wd_1620, wd_186, ⟨by decide, by decide, by decide +kernel⟩, rfl⟩
theorem kl_X8_335 : zkL RX8 335 Y_X8_semicolon := Or.inl wd_1617
theorem kV_X8_semicolon : zkV Y_X8_semicolon := ⟨wd_1619, wd_101⟩
theorem k0_X8_parseProbe : zk0 Y_X8_parseProbe 0 := ⟨wd_1672, wd_186, ⟨by decide, by decide, by decide +kernel⟩, rfl⟩
theorem kl_X8_332 : zkL RX8 332 Y_X8_parseProbe := Or.inl wd_1669
theorem kV_X8_parseProbe : zkV Y_X8_parseProbe := ⟨wd_1671, wd_112⟩
theorem k0_X8_parseLink : zk0 Y_X8_parseLink 0 := ⟨wd_1652, wd_186, ⟨by decide, by decide, by decide +kernel⟩, rfl⟩
theorem kl_X8_329 : zkL RX8 329 Y_X8_parseLink := Or.inl wd_1649
theorem kV_X8_parseLink : zkV Y_X8_parseLink := ⟨wd_1651, wd_107⟩
theorem k0_X8_parseNew : zk0 Y_X8_parseNew 2 := ⟨wd_1629, wd_186, ⟨by decide, by decide, by decide +kernel⟩, rfl⟩
theorem kl_X8_326 : zkL RX8 326 Y_X8_parseNew := Or.inl wd_1626
theorem kV_X8_parseNew : zkV Y_X8_parseNew := ⟨wd_1628, wd_103⟩
theorem fd_X8_468 : zFd RX8 468 8 25 := ⟨(RX8, TX8, 28), rfl, by decide, zu_X8, rfl, Or.inl wd_1480⟩
theorem fp_X8_remember_468 : zFp Y_X8_remember 468 8 25 0 := ⟨(RX8, TX8, 28), tyX8, rfl, tyX8_ok, nmX8, rfl, rfl, Or.inl rfl⟩
theorem fp_X8_load_24 : zFp Y_X8_load 24 8 3 4 := ⟨(RX8, TX8, 28), tyX8, rfl, tyX8_ok, nmX8, rfl, Or.inr ⟨_, rfl⟩, Or.inl rfl⟩
theorem k0_X8_remember : zk0 Y_X8_remember 0 := ⟨wd_1745, wd_186, ⟨by decide, by decide, by decide +kernel⟩, rfl⟩
theorem kl_X8_344 : zkL RX8 344 Y_X8_remember := Or.inl wd_1742
theorem kV_X8_remember : zkV Y_X8_remember := ⟨wd_1744, wd_127⟩
theorem k0_X8_parseStatement : zk0 Y_X8_parseStatement 0 := ⟨wd_1624, wd_186, ⟨by decide, by decide, by decide +kernel⟩, rfl⟩
theorem kl_X8_341 : zkL RX8 341 Y_X8_parseStatement := Or.inl wd_1621
theorem kV_X8_parseStatement : zkV Y_X8_parseStatement := ⟨wd_1623, wd_102⟩
theorem fp_X8_load_3 : zFp Y_X8_load 3 8 0 0 := ⟨(RX8, TX8, 28), tyX8, rfl, tyX8_ok, nmX8, rfl, rfl, Or.inl rfl⟩
theorem fp_X8_load_232 : zFp Y_X8_load 232 8 12 0 := ⟨(RX8, TX8, 28), tyX8, rfl, tyX8_ok, nmX8, rfl, rfl, Or.inl rfl⟩
theorem fp_X8_load_212 : zFp Y_X8_load 212 8 11 0 := ⟨(RX8, TX8, 28), tyX8, rfl, tyX8_ok, nmX8, rfl, rfl, Or.inl rfl⟩
theorem fp_X8_load_235 : zFp Y_X8_load 235 8 13 0 := ⟨(RX8, TX8, 28), tyX8, rfl, tyX8_ok, nmX8, rfl, rfl, Or.inl rfl⟩
theorem fp_X8_load_223 : zFp Y_X8_load 223 8 17 0 := ⟨(RX8, TX8, 28), tyX8, rfl, tyX8_ok, nmX8, rfl, rfl, Or.inl rfl⟩
theorem fp_X8_load_44 : zFp Y_X8_load 44 8 18 0 := ⟨(RX8, TX8, 28), tyX8, rfl, tyX8_ok, nmX8, rfl, rfl, Or.inl rfl⟩
theorem k0_X8_parseRules : zk0 Y_X8_parseRules 0 := ⟨wd_1584, wd_186, ⟨by decide, by decide, by decide +kernel⟩, rfl⟩
theorem kl_X8_338 : zkL RX8 338 Y_X8_parseRules := Or.inl wd_1581
theorem kV_X8_parseRules : zkV Y_X8_parseRules := ⟨wd_1583, wd_94⟩
theorem fp_X8_errorCode_3 : zFp Y_X8_errorCode 3 8 0 0 := ⟨(RX8, TX8, 28), tyX8, rfl, tyX8_ok, nmX8, rfl, rfl, Or.inl rfl⟩
theorem fp_X8_errorPosition_3 : zFp Y_X8_errorPosition 3 8 0 0 := ⟨(RX8, TX8, 28), tyX8, rfl, tyX8_ok, nmX8, rfl, rfl, Or.inl rfl⟩
theorem fp_X8_found_212 : zFp Y_X8_found 212 8 11 0 := ⟨(RX8, TX8, 28), tyX8, rfl, tyX8_ok, nmX8, rfl, rfl, Or.inl rfl⟩
theorem fp_X8_findAgent_3 : zFp Y_X8_findAgent 3 8 0 0 := ⟨(RX8, TX8, 28), tyX8, rfl, tyX8_ok, nmX8, rfl, rfl, Or.inl rfl⟩
theorem k0_X8_found : zk0 Y_X8_found 2 := ⟨wd_1765, wd_186, ⟨by decide, by decide, by decide +kernel⟩, rfl⟩
theorem kl_X8_349 : zkL RX8 349 Y_X8_found := Or.inl wd_1762
theorem kV_X8_found : zkV Y_X8_found := ⟨wd_1764, wd_129⟩
theorem fp_X8_findWay_3 : zFp Y_X8_findWay 3 8 0 0 := ⟨(RX8, TX8, 28), tyX8, rfl, tyX8_ok, nmX8, rfl, rfl, Or.inl rfl⟩
theorem k0_X8_bits : zk0 Y_X8_bits 1 := ⟨wd_1794, wd_186, ⟨by decide, by decide, by decide +kernel⟩, rfl⟩
theorem kl_X8_355 : zkL RX8 355 Y_X8_bits := Or.inl wd_1792
theorem k0_X8_neighborsOf : zk0 Y_X8_neighborsOf 1 := ⟨wd_1791, wd_186, ⟨by decide, by decide, by decide +kernel⟩, rfl⟩
theorem kl_X8_352 : zkL RX8 352 Y_X8_neighborsOf := Or.inl wd_1788
theorem kV_X8_neighborsOf : zkV Y_X8_neighborsOf := ⟨wd_1790, wd_133⟩
theorem k0_X8_links : zk0 Y_X8_links 0 := ⟨wd_1787, wd_186, ⟨by decide, by decide, by decide +kernel⟩, rfl⟩
theorem kl_X8_360 : zkL RX8 360 Y_X8_links := Or.inl wd_1784
theorem kV_X8_links : zkV Y_X8_links := ⟨wd_1786, wd_132⟩
theorem k0_X8_areAgents : zk0 Y_X8_areAgents 2 := ⟨wd_1802, wd_186, ⟨by decide, by decide, by decide +kernel⟩, rfl⟩
theorem kl_X8_363 : zkL RX8 363 Y_X8_areAgents := Or.inl wd_1799
theorem kV_X8_areAgents : zkV Y_X8_areAgents := ⟨wd_1801, wd_134⟩
theorem k0_X8_passes2 : zk0 Y_X8_passes2 2 := ⟨wd_1831, wd_186, ⟨by decide, by decide, by decide +kernel⟩, rfl⟩
theorem kl_X8_368 : zkL RX8 368 Y_X8_passes2 := Or.inl wd_1828
theorem kV_X8_passes2 : zkV Y_X8_passes2 := ⟨wd_1830, wd_136⟩
theorem k0_X8_isReport : zk0 Y_X8_isReport 2 := ⟨wd_1843, wd_186, ⟨by decide, by decide, by decide +kernel⟩, rfl⟩
theorem kl_X8_372 : zkL RX8 372 Y_X8_isReport := Or.inl wd_1840
theorem kV_X8_isReport : zkV Y_X8_isReport := ⟨wd_1842, wd_137⟩
theorem k0_X8_statusAt : zk0 Y_X8_statusAt 2 := ⟨wd_1851, wd_186, ⟨by decide, by decide, by decide +kernel⟩, rfl⟩
theorem kl_X8_375 : zkL RX8 375 Y_X8_statusAt := Or.inl wd_1848
theorem kV_X8_statusAt : zkV Y_X8_statusAt := ⟨wd_1850, wd_138⟩
theorem k0_X8_isWay : zk0 Y_X8_isWay 1 := ⟨wd_1895, wd_186, ⟨by decide, by decide, by decide +kernel⟩, rfl⟩
theorem kl_X8_378 : zkL RX8 378 Y_X8_isWay := Or.inl wd_1892
theorem kV_X8_isWay : zkV Y_X8_isWay := ⟨wd_1894, wd_147⟩
theorem k0_X8_areThere : zk0 Y_X8_areThere 2 := ⟨wd_1891, wd_186, ⟨by decide, by decide, by decide +kernel⟩, rfl⟩
theorem kl_X8_381 : zkL RX8 381 Y_X8_areThere := Or.inl wd_1888
theorem kV_X8_areThere : zkV Y_X8_areThere := ⟨wd_1890, wd_146⟩
theorem k0_X8_boundOf : zk0 Y_X8_boundOf 3 := ⟨wd_1907, wd_186, ⟨by decide, by decide, by decide +kernel⟩, rfl⟩
theorem kl_X8_384 : zkL RX8 384 Y_X8_boundOf := Or.inl wd_1904
theorem kV_X8_boundOf : zkV Y_X8_boundOf := ⟨wd_1906, wd_149⟩
theorem k0_X8_originsWith : zk0 Y_X8_originsWith 3 := ⟨wd_1915, wd_186, ⟨by decide, by decide, by decide +kernel⟩, rfl⟩
theorem kl_X8_387 : zkL RX8 387 Y_X8_originsWith := Or.inl wd_1912
theorem kV_X8_originsWith : zkV Y_X8_originsWith := ⟨wd_1914, wd_150⟩
theorem k0_X8_rivalsOf : zk0 Y_X8_rivalsOf 1 := ⟨wd_1940, wd_186, ⟨by decide, by decide, by decide +kernel⟩, rfl⟩
theorem kl_X8_392 : zkL RX8 392 Y_X8_rivalsOf := Or.inl wd_1937
theorem kV_X8_rivalsOf : zkV Y_X8_rivalsOf := ⟨wd_1939, wd_153⟩
theorem k0_X8_widthOf : zk0 Y_X8_widthOf 2 := ⟨wd_1948, wd_186, ⟨by decide, by decide, by decide +kernel⟩, rfl⟩
theorem kl_X8_395 : zkL RX8 395 Y_X8_widthOf := Or.inl wd_1945
theorem kV_X8_widthOf : zkV Y_X8_widthOf := ⟨wd_1947, wd_154⟩
theorem k0_X8_isMessage : zk0 Y_X8_isMessage 1 := ⟨wd_1969, wd_186, ⟨by decide, by decide, by decide +kernel⟩, rfl⟩
theorem kl_X8_400 : zkL RX8 400 Y_X8_isMessage := Or.inl wd_1966
theorem kV_X8_isMessage : zkV Y_X8_isMessage := ⟨wd_1968, wd_155⟩
theorem fd_X8_403 : zFd RX8 403 8 19 := ⟨(RX8, TX8, 28), rfl, by decide, zu_X8, rfl, Or.inl wd_1474⟩
theorem fp_X8_holding_403 : zFp Y_X8_holding 403 8 19 0 := ⟨(RX8, TX8, 28), tyX8, rfl, tyX8_ok, nmX8, rfl, rfl, Or.inl rfl⟩
theorem fd_X8_406 : zFd RX8 406 8 20 := ⟨(RX8, TX8, 28), rfl, by decide, zu_X8, rfl, Or.inl wd_1475⟩
theorem fp_X8_holding_406 : zFp Y_X8_holding 406 8 20 0 := ⟨(RX8, TX8, 28), tyX8, rfl, tyX8_ok, nmX8, rfl, rfl, Or.inl rfl⟩
theorem k0_X8_holding : zk0 Y_X8_holding 2 := ⟨wd_1996, wd_186, ⟨by decide, by decide, by decide +kernel⟩, rfl⟩
theorem kl_X8_409 : zkL RX8 409 Y_X8_holding := Or.inl wd_1993
theorem kV_X8_holding : zkV Y_X8_holding := ⟨wd_1995, wd_160⟩
theorem k0_X8_agreed : zk0 Y_X8_agreed 2 := ⟨wd_1992, wd_186, ⟨by decide, by decide, by decide +kernel⟩, rfl⟩
theorem kl_X8_412 : zkL RX8 412 Y_X8_agreed := Or.inl wd_1989
theorem kV_X8_agreed : zkV Y_X8_agreed := ⟨wd_1991, wd_159⟩
theorem k0_X8_majorityOf : zk0 Y_X8_majorityOf 2 := ⟨wd_1988, wd_186, ⟨by decide, by decide, by decide +kernel⟩, rfl⟩
theorem kl_X8_415 : zkL RX8 415 Y_X8_majorityOf := Or.inl wd_1985
theorem kV_X8_majorityOf : zkV Y_X8_majorityOf := ⟨wd_1987, wd_158⟩
theorem k0_X8_reaches : zk0 Y_X8_reaches 3 := ⟨wd_2012, wd_186, ⟨by decide, by decide, by decide +kernel⟩, rfl⟩
theorem kl_X8_418 : zkL RX8 418 Y_X8_reaches := Or.inl wd_2009
theorem kV_X8_reaches : zkV Y_X8_reaches := ⟨wd_2011, wd_161⟩
theorem k0_X8_sends : zk0 Y_X8_sends 3 := ⟨wd_2036, wd_186, ⟨by decide, by decide, by decide +kernel⟩, rfl⟩
theorem kl_X8_449 : zkL RX8 449 Y_X8_sends := Or.inl wd_2033
theorem kV_X8_sends : zkV Y_X8_sends := ⟨wd_2035, wd_166⟩
theorem k0_X8_spreads : zk0 Y_X8_spreads 4 := ⟨wd_2032, wd_186, ⟨by decide, by decide, by decide +kernel⟩, rfl⟩
theorem kl_X8_452 : zkL RX8 452 Y_X8_spreads := Or.inl wd_2029
theorem kV_X8_spreads : zkV Y_X8_spreads := ⟨wd_2031, wd_165⟩
theorem k0_X8_deliverAll : zk0 Y_X8_deliverAll 1 := ⟨wd_2040, wd_186, ⟨by decide, by decide, by decide +kernel⟩, rfl⟩
theorem kl_X8_424 : zkL RX8 424 Y_X8_deliverAll := Or.inl wd_2037
theorem kV_X8_deliverAll : zkV Y_X8_deliverAll := ⟨wd_2039, wd_167⟩
theorem k0_X8_doRelay : zk0 Y_X8_doRelay 1 := ⟨wd_2028, wd_186, ⟨by decide, by decide, by decide +kernel⟩, rfl⟩
theorem kl_X8_421 : zkL RX8 421 Y_X8_doRelay := Or.inl wd_2025
theorem kV_X8_doRelay : zkV Y_X8_doRelay := ⟨wd_2027, wd_164⟩
theorem k0_X8_layBack : zk0 Y_X8_layBack 1 := ⟨wd_2052, wd_186, ⟨by decide, by decide, by decide +kernel⟩, rfl⟩
theorem kl_X8_433 : zkL RX8 433 Y_X8_layBack := Or.inl wd_2049
theorem kV_X8_layBack : zkV Y_X8_layBack := ⟨wd_2051, wd_170⟩
theorem k0_X8_doRound : zk0 Y_X8_doRound 0 := ⟨wd_2024, wd_186, ⟨by decide, by decide, by decide +kernel⟩, rfl⟩
theorem kl_X8_430 : zkL RX8 430 Y_X8_doRound := Or.inl wd_2021
theorem kV_X8_doRound : zkV Y_X8_doRound := ⟨wd_2023, wd_163⟩
theorem k0_X8_keepAside : zk0 Y_X8_keepAside 0 := ⟨wd_2020, wd_186, ⟨by decide, by decide, by decide +kernel⟩, rfl⟩
theorem kl_X8_427 : zkL RX8 427 Y_X8_keepAside := Or.inl wd_2017
theorem kV_X8_keepAside : zkV Y_X8_keepAside := ⟨wd_2019, wd_162⟩
theorem k0_X8_areBounds : zk0 Y_X8_areBounds 2 := ⟨wd_2067, wd_186, ⟨by decide, by decide, by decide +kernel⟩, rfl⟩
theorem kl_X8_438 : zkL RX8 438 Y_X8_areBounds := Or.inl wd_2065
theorem k0_X8_doPass : zk0 Y_X8_doPass 1 := ⟨wd_2081, wd_186, ⟨by decide, by decide, by decide +kernel⟩, rfl⟩
theorem kl_X8_443 : zkL RX8 443 Y_X8_doPass := Or.inl wd_2078
theorem kV_X8_doPass : zkV Y_X8_doPass := ⟨wd_2080, wd_171⟩
theorem fp_X8_widthBut_27 : zFp Y_X8_widthBut 27 8 4 0 := ⟨(RX8, TX8, 28), tyX8, rfl, tyX8_ok, nmX8, rfl, rfl, Or.inl rfl⟩
theorem k0_X8_widthBut : zk0 Y_X8_widthBut 3 := ⟨wd_2089, wd_186, ⟨by decide, by decide, by decide +kernel⟩, rfl⟩
theorem kl_X8_446 : zkL RX8 446 Y_X8_widthBut := Or.inl wd_2086
theorem kV_X8_widthBut : zkV Y_X8_widthBut := ⟨wd_2088, wd_172⟩
theorem k0_X8_mostOf : zk0 Y_X8_mostOf 1 := ⟨wd_2141, wd_186, ⟨by decide, by decide, by decide +kernel⟩, rfl⟩
theorem kl_X8_462 : zkL RX8 462 Y_X8_mostOf := Or.inl wd_2139
theorem k0_X8_leastOf : zk0 Y_X8_leastOf 1 := ⟨wd_2138, wd_186, ⟨by decide, by decide, by decide +kernel⟩, rfl⟩
theorem kl_X8_459 : zkL RX8 459 Y_X8_leastOf := Or.inl wd_2136
theorem k0_X8_isSlot : zk0 Y_X8_isSlot 1 := ⟨wd_2152, wd_186, ⟨by decide, by decide, by decide +kernel⟩, rfl⟩
theorem kl_X8_465 : zkL RX8 465 Y_X8_isSlot := Or.inl wd_2150
theorem fp_X8_undo_468 : zFp Y_X8_undo 468 8 25 0 := ⟨(RX8, TX8, 28), tyX8, rfl, tyX8_ok, nmX8, rfl, rfl, Or.inl rfl⟩
theorem fp_X8_undoCount_3 : zFp Y_X8_undoCount 3 8 0 0 := ⟨(RX8, TX8, 28), tyX8, rfl, tyX8_ok, nmX8, rfl, rfl, Or.inl rfl⟩
theorem fd_X8_471 : zFd RX8 471 8 27 := ⟨(RX8, TX8, 28), rfl, by decide, zu_X8, rfl, Or.inl wd_1482⟩
theorem fp_X8_write_471 : zFp Y_X8_write 471 8 27 0 := ⟨(RX8, TX8, 28), tyX8, rfl, tyX8_ok, nmX8, rfl, rfl, Or.inl rfl⟩
theorem k0_X8_write : zk0 Y_X8_write 1 := ⟨wd_2172, wd_186, ⟨by decide, by decide, by decide +kernel⟩, rfl⟩
theorem kl_X8_474 : zkL RX8 474 Y_X8_write := Or.inl wd_2169
theorem kV_X8_write : zkV Y_X8_write := ⟨wd_2171, wd_173⟩
theorem k0_X8_writeNumber : zk0 Y_X8_writeNumber 1 := ⟨wd_2180, wd_186, ⟨by decide, by decide, by decide +kernel⟩, rfl⟩
theorem kl_X8_480 : zkL RX8 480 Y_X8_writeNumber := Or.inl wd_2177
theorem kV_X8_writeNumber : zkV Y_X8_writeNumber := ⟨wd_2179, wd_175⟩
theorem k0_X8_writeName : zk0 Y_X8_writeName 1 := ⟨wd_2176, wd_186, ⟨by decide, by decide, by decide +kernel⟩, rfl⟩
theorem kl_X8_477 : zkL RX8 477 Y_X8_writeName := Or.inl wd_2173
theorem kV_X8_writeName : zkV Y_X8_writeName := ⟨wd_2175, wd_174⟩
theorem fp_X8_writeBeliefs_471 : zFp Y_X8_writeBeliefs 471 8 27 0 := ⟨(RX8, TX8, 28), tyX8, rfl, tyX8_ok, nmX8, rfl, rfl, Or.inl rfl⟩
theorem fp_X8_writeReports_471 : zFp Y_X8_writeReports 471 8 27 0 := ⟨(RX8, TX8, 28), tyX8, rfl, tyX8_ok, nmX8, rfl, rfl, Or.inl rfl⟩
