/-! the tables checked, method by method -/
set_option maxRecDepth 100000 in
theorem ok_X0_init : okMT km_X0_init (510, 82) = true := by decide +kernel
set_option maxRecDepth 100000 in
theorem ok_X0_hoursFrom : okMT km_X0_hoursFrom (659, 82) = true := by decide +kernel
set_option maxRecDepth 100000 in
theorem ok_X0_sends : okMT km_X0_sends (877, 82) = true := by decide +kernel
set_option maxRecDepth 100000 in
theorem ok_X1_init : okMT km_X1_init (571, 83) = true := by decide +kernel
set_option maxRecDepth 100000 in
theorem ok_X1_hoursFrom : okMT km_X1_hoursFrom (662, 83) = true := by decide +kernel
set_option maxRecDepth 100000 in
theorem ok_X1_takes : okMT km_X1_takes (903, 83) = true := by decide +kernel
set_option maxRecDepth 100000 in
theorem ok_X2_init : okMT km_X2_init (623, 87) = true := by decide +kernel
set_option maxRecDepth 100000 in
theorem ok_X2_hoursFrom : okMT km_X2_hoursFrom (665, 87) = true := by decide +kernel
set_option maxRecDepth 100000 in
theorem ok_X2_hoursSat : okMT km_X2_hoursSat (706, 87) = true := by decide +kernel
set_option maxRecDepth 100000 in
theorem ok_X2_takes : okMT km_X2_takes (908, 87) = true := by decide +kernel
set_option maxRecDepth 100000 in
theorem ok_X3_init : okMT km_X3_init (427, 78) = true := by decide +kernel
set_option maxRecDepth 100000 in
theorem ok_X3_holds : okMT km_X3_holds (490, 78) = true := by decide +kernel
set_option maxRecDepth 100000 in
theorem ok_X3_test : okMT km_X3_test (400, 78) = true := by decide +kernel
set_option maxRecDepth 100000 in
theorem ok_X3_passes : okMT km_X3_passes (493, 78) = true := by decide +kernel
set_option maxRecDepth 100000 in
theorem ok_X4_init : okMT km_X4_init (584, 84) = true := by decide +kernel
set_option maxRecDepth 100000 in
theorem ok_X4_hoursFrom : okMT km_X4_hoursFrom (668, 84) = true := by decide +kernel
set_option maxRecDepth 100000 in
theorem ok_X4_tells : okMT km_X4_tells (926, 84) = true := by decide +kernel
set_option maxRecDepth 100000 in
theorem ok_X5_init : okMT km_X5_init (174, 69) = true := by decide +kernel
set_option maxRecDepth 100000 in
theorem ok_X5_readCoast : okMT km_X5_readCoast (249, 69) = true := by decide +kernel
set_option maxRecDepth 100000 in
theorem ok_X5_firstClauses : okMT km_X5_firstClauses (444, 69) = true := by decide +kernel
set_option maxRecDepth 100000 in
theorem ok_X5_readSaying : okMT km_X5_readSaying (452, 69) = true := by decide +kernel
set_option maxRecDepth 100000 in
theorem ok_X5_newClause : okMT km_X5_newClause (408, 69) = true := by decide +kernel
set_option maxRecDepth 100000 in
theorem ok_X5_readClause : okMT km_X5_readClause (254, 69) = true := by decide +kernel
set_option maxRecDepth 100000 in
theorem ok_X5_readWord : okMT km_X5_readWord (258, 69) = true := by decide +kernel
set_option maxRecDepth 100000 in
theorem ok_X5_readAny : okMT km_X5_readAny (329, 69) = true := by decide +kernel
set_option maxRecDepth 100000 in
theorem ok_X5_readOne : okMT km_X5_readOne (333, 69) = true := by decide +kernel
set_option maxRecDepth 100000 in
theorem ok_X5_readTest : okMT km_X5_readTest (337, 69) = true := by decide +kernel
set_option maxRecDepth 100000 in
theorem ok_X5_readNumber : okMT km_X5_readNumber (325, 69) = true := by decide +kernel
set_option maxRecDepth 100000 in
theorem ok_X5_goOnAll : okMT km_X5_goOnAll (267, 69) = true := by decide +kernel
set_option maxRecDepth 100000 in
theorem ok_X5_goOn : okMT km_X5_goOn (319, 69) = true := by decide +kernel
set_option maxRecDepth 100000 in
theorem ok_X5_sign : okMT km_X5_sign (262, 69) = true := by decide +kernel
set_option maxRecDepth 100000 in
theorem ok_X5_add : okMT km_X5_add (404, 69) = true := by decide +kernel
set_option maxRecDepth 100000 in
theorem ok_X6_init : okMT km_X6_init (513, 81) = true := by decide +kernel
set_option maxRecDepth 100000 in
theorem ok_X6_hoursFrom : okMT km_X6_hoursFrom (676, 81) = true := by decide +kernel
set_option maxRecDepth 100000 in
theorem ok_X6_hoursSat : okMT km_X6_hoursSat (710, 81) = true := by decide +kernel
set_option maxRecDepth 100000 in
theorem ok_X6_toll : okMT km_X6_toll (693, 81) = true := by decide +kernel
set_option maxRecDepth 100000 in
theorem ok_X6_sends : okMT km_X6_sends (894, 81) = true := by decide +kernel
set_option maxRecDepth 100000 in
theorem ok_X6_takes : okMT km_X6_takes (916, 81) = true := by decide +kernel
set_option maxRecDepth 100000 in
theorem ok_X6_tells : okMT km_X6_tells (942, 81) = true := by decide +kernel
set_option maxRecDepth 100000 in
theorem ok_X7_init : okMT km_X7_init (597, 85) = true := by decide +kernel
set_option maxRecDepth 100000 in
theorem ok_X7_toll : okMT km_X7_toll (691, 85) = true := by decide +kernel
set_option maxRecDepth 100000 in
theorem ok_X7_tells : okMT km_X7_tells (932, 85) = true := by decide +kernel
set_option maxRecDepth 100000 in
theorem ok_X8_init : okMT km_X8_init (610, 86) = true := by decide +kernel
set_option maxRecDepth 100000 in
theorem ok_X8_hoursFrom : okMT km_X8_hoursFrom (673, 86) = true := by decide +kernel
set_option maxRecDepth 100000 in
theorem ok_X8_sends : okMT km_X8_sends (889, 86) = true := by decide +kernel
set_option maxRecDepth 100000 in
theorem ok_X9_init : okMT km_X9_init (203, 70) = true := by decide +kernel
set_option maxRecDepth 100000 in
theorem ok_X9_note : okMT km_X9_note (881, 70) = true := by decide +kernel
set_option maxRecDepth 100000 in
theorem ok_X10_init : okMT km_X10_init (100, 68) = true := by decide +kernel
set_option maxRecDepth 100000 in
theorem ok_X10_copy : okMT km_X10_copy (962, 68) = true := by decide +kernel
set_option maxRecDepth 100000 in
theorem ok_X10_hasThing : okMT km_X10_hasThing (471, 68) = true := by decide +kernel
set_option maxRecDepth 100000 in
theorem ok_X10_sayingAt : okMT km_X10_sayingAt (738, 68) = true := by decide +kernel
set_option maxRecDepth 100000 in
theorem ok_X10_wayAt : okMT km_X10_wayAt (652, 68) = true := by decide +kernel
set_option maxRecDepth 100000 in
theorem ok_X10_replaceWay : okMT km_X10_replaceWay (718, 68) = true := by decide +kernel
set_option maxRecDepth 100000 in
theorem ok_X10_rows : okMT km_X10_rows (762, 68) = true := by decide +kernel
set_option maxRecDepth 100000 in
theorem ok_X10_heeded : okMT km_X10_heeded (780, 68) = true := by decide +kernel
set_option maxRecDepth 100000 in
theorem ok_X10_factsOfRow : okMT km_X10_factsOfRow (775, 68) = true := by decide +kernel
set_option maxRecDepth 100000 in
theorem ok_X10_costs : okMT km_X10_costs (680, 68) = true := by decide +kernel
set_option maxRecDepth 100000 in
theorem ok_X10_together : okMT km_X10_together (486, 68) = true := by decide +kernel
set_option maxRecDepth 100000 in
theorem ok_X10_step : okMT km_X10_step (803, 68) = true := by decide +kernel
set_option maxRecDepth 100000 in
theorem ok_X10_reach : okMT km_X10_reach (798, 68) = true := by decide +kernel
set_option maxRecDepth 100000 in
theorem ok_X10_chances : okMT km_X10_chances (750, 68) = true := by decide +kernel
set_option maxRecDepth 100000 in
theorem ok_X10_chanceIn : okMT km_X10_chanceIn (755, 68) = true := by decide +kernel
set_option maxRecDepth 100000 in
theorem ok_X11_init : okMT km_X11_init (92, 67) = true := by decide +kernel
set_option maxRecDepth 100000 in
theorem ok_X11_feed : okMT km_X11_feed (241, 67) = true := by decide +kernel
set_option maxRecDepth 100000 in
theorem ok_X11_coast : okMT km_X11_coast (245, 67) = true := by decide +kernel
set_option maxRecDepth 100000 in
theorem ok_X11_saying : okMT km_X11_saying (448, 67) = true := by decide +kernel
set_option maxRecDepth 100000 in
theorem ok_X11_thing : okMT km_X11_thing (457, 67) = true := by decide +kernel
set_option maxRecDepth 100000 in
theorem ok_X11_put : okMT km_X11_put (467, 67) = true := by decide +kernel
set_option maxRecDepth 100000 in
theorem ok_X11_of : okMT km_X11_of (478, 67) = true := by decide +kernel
set_option maxRecDepth 100000 in
theorem ok_X11_way : okMT km_X11_way (498, 67) = true := by decide +kernel
set_option maxRecDepth 100000 in
theorem ok_X11_newWay : okMT km_X11_newWay (505, 67) = true := by decide +kernel
set_option maxRecDepth 100000 in
theorem ok_X11_at : okMT km_X11_at (648, 67) = true := by decide +kernel
set_option maxRecDepth 100000 in
theorem ok_X11_bribe : okMT km_X11_bribe (714, 67) = true := by decide +kernel
set_option maxRecDepth 100000 in
theorem ok_X11_now : okMT km_X11_now (722, 67) = true := by decide +kernel
set_option maxRecDepth 100000 in
theorem ok_X11_hour : okMT km_X11_hour (726, 67) = true := by decide +kernel
set_option maxRecDepth 100000 in
theorem ok_X11_odds : okMT km_X11_odds (730, 67) = true := by decide +kernel
set_option maxRecDepth 100000 in
theorem ok_X11_sure : okMT km_X11_sure (790, 67) = true := by decide +kernel
set_option maxRecDepth 100000 in
theorem ok_X11_tell : okMT km_X11_tell (794, 67) = true := by decide +kernel
set_option maxRecDepth 100000 in
theorem ok_X11_which : okMT km_X11_which (811, 67) = true := by decide +kernel
set_option maxRecDepth 100000 in
theorem ok_X11_worth : okMT km_X11_worth (815, 67) = true := by decide +kernel
set_option maxRecDepth 100000 in
theorem ok_X11_sit : okMT km_X11_sit (819, 67) = true := by decide +kernel
set_option maxRecDepth 100000 in
theorem ok_X11_catches : okMT km_X11_catches (839, 67) = true := by decide +kernel
set_option maxRecDepth 100000 in
theorem ok_X11_all : okMT km_X11_all (843, 67) = true := by decide +kernel
set_option maxRecDepth 100000 in
theorem ok_X11_begin : okMT km_X11_begin (848, 67) = true := by decide +kernel
set_option maxRecDepth 100000 in
theorem ok_X11_heed : okMT km_X11_heed (852, 67) = true := by decide +kernel
set_option maxRecDepth 100000 in
theorem ok_X11_self : okMT km_X11_self (734, 67) = true := by decide +kernel
set_option maxRecDepth 100000 in
theorem ok_X11_back : okMT km_X11_back (857, 67) = true := by decide +kernel
set_option maxRecDepth 100000 in
theorem ok_X11_partsSo : okMT km_X11_partsSo (746, 67) = true := by decide +kernel
set_option maxRecDepth 100000 in
theorem ok_X11_partsOfRow : okMT km_X11_partsOfRow (766, 67) = true := by decide +kernel
set_option maxRecDepth 100000 in
theorem ok_X11_isSo : okMT km_X11_isSo (771, 67) = true := by decide +kernel
set_option maxRecDepth 100000 in
theorem ok_X11_markFails : okMT km_X11_markFails (823, 67) = true := by decide +kernel
set_option maxRecDepth 100000 in
theorem ok_X11_carryBack : okMT km_X11_carryBack (827, 67) = true := by decide +kernel
set_option maxRecDepth 100000 in
theorem ok_X11_failsFrom : okMT km_X11_failsFrom (831, 67) = true := by decide +kernel
set_option maxRecDepth 100000 in
theorem ok_X11_setFails : okMT km_X11_setFails (835, 67) = true := by decide +kernel
set_option maxRecDepth 100000 in
theorem ok_X11_partOf : okMT km_X11_partOf (784, 67) = true := by decide +kernel
set_option maxRecDepth 100000 in
theorem ok_X11_row : okMT km_X11_row (861, 67) = true := by decide +kernel
set_option maxRecDepth 100000 in
theorem ok_X11_looked : okMT km_X11_looked (865, 67) = true := by decide +kernel
set_option maxRecDepth 100000 in
theorem ok_X11_act : okMT km_X11_act (870, 67) = true := by decide +kernel
set_option maxRecDepth 100000 in
theorem ok_X11_trace : okMT km_X11_trace (947, 67) = true := by decide +kernel
set_option maxRecDepth 100000 in
theorem ok_X11_as : okMT km_X11_as (951, 67) = true := by decide +kernel
set_option maxRecDepth 100000 in
theorem ok_X11_isOf : okMT km_X11_isOf (954, 67) = true := by decide +kernel
set_option maxRecDepth 100000 in
theorem ok_X11_image : okMT km_X11_image (958, 67) = true := by decide +kernel
set_option maxRecDepth 100000 in
theorem ok_X11_undo : okMT km_X11_undo (967, 67) = true := by decide +kernel
set_option maxRecDepth 100000 in
theorem ok_X11_count : okMT km_X11_count (971, 67) = true := by decide +kernel
set_option maxRecDepth 100000 in
theorem ok_X11_isState : okMT km_X11_isState (460, 67) = true := by decide +kernel
set_option maxRecDepth 100000 in
theorem ok_X11_isKind : okMT km_X11_isKind (501, 67) = true := by decide +kernel
set_option maxRecDepth 100000 in
theorem ok_X11_isPart : okMT km_X11_isPart (741, 67) = true := by decide +kernel
set_option maxRecDepth 100000 in
theorem ok_X11_stateIn : okMT km_X11_stateIn (474, 67) = true := by decide +kernel
set_option maxRecDepth 100000 in
theorem ok_X11_withState : okMT km_X11_withState (463, 67) = true := by decide +kernel
set_option maxRecDepth 100000 in
theorem ok_X11_reached : okMT km_X11_reached (806, 67) = true := by decide +kernel
set_option maxRecDepth 100000 in
theorem ok_X11_factsOfThing : okMT km_X11_factsOfThing (481, 67) = true := by decide +kernel
set_option maxRecDepth 100000 in
theorem ok_X11_factsOfWay : okMT km_X11_factsOfWay (696, 67) = true := by decide +kernel
set_option maxRecDepth 100000 in
theorem ok_X12_init : okMT km_X12_init (976, 71) = true := by decide +kernel
set_option maxRecDepth 100000 in
theorem ok_X12_in : okMT km_X12_in (1059, 71) = true := by decide +kernel
set_option maxRecDepth 100000 in
theorem ok_X12_isThing : okMT km_X12_isThing (1139, 71) = true := by decide +kernel
set_option maxRecDepth 100000 in
theorem ok_X12_isWay : okMT km_X12_isWay (1166, 71) = true := by decide +kernel
set_option maxRecDepth 100000 in
theorem ok_X12_isSaying : okMT km_X12_isSaying (1198, 71) = true := by decide +kernel
set_option maxRecDepth 100000 in
theorem ok_X12_feed : okMT km_X12_feed (1056, 71) = true := by decide +kernel
set_option maxRecDepth 100000 in
theorem ok_X12_here : okMT km_X12_here (1076, 71) = true := by decide +kernel
set_option maxRecDepth 100000 in
theorem ok_X12_must : okMT km_X12_must (1091, 71) = true := by decide +kernel
set_option maxRecDepth 100000 in
theorem ok_X12_spells : okMT km_X12_spells (1085, 71) = true := by decide +kernel
set_option maxRecDepth 100000 in
theorem ok_X12_figures : okMT km_X12_figures (1095, 71) = true := by decide +kernel
set_option maxRecDepth 100000 in
theorem ok_X12_among : okMT km_X12_among (1115, 71) = true := by decide +kernel
set_option maxRecDepth 100000 in
theorem ok_X12_emits : okMT km_X12_emits (1111, 71) = true := by decide +kernel
set_option maxRecDepth 100000 in
theorem ok_X12_factor : okMT km_X12_factor (1107, 71) = true := by decide +kernel
set_option maxRecDepth 100000 in
theorem ok_X12_every : okMT km_X12_every (1103, 71) = true := by decide +kernel
set_option maxRecDepth 100000 in
theorem ok_X12_some : okMT km_X12_some (1099, 71) = true := by decide +kernel
set_option maxRecDepth 100000 in
theorem ok_X12_much : okMT km_X12_much (1081, 71) = true := by decide +kernel
set_option maxRecDepth 100000 in
theorem ok_X12_clauseOfD : okMT km_X12_clauseOfD (1120, 71) = true := by decide +kernel
set_option maxRecDepth 100000 in
theorem ok_X12_clauseHere : okMT km_X12_clauseHere (1072, 71) = true := by decide +kernel
set_option maxRecDepth 100000 in
theorem ok_X12_begins : okMT km_X12_begins (1068, 71) = true := by decide +kernel
set_option maxRecDepth 100000 in
theorem ok_X12_coast : okMT km_X12_coast (1063, 71) = true := by decide +kernel
set_option maxRecDepth 100000 in
theorem ok_X12_saying : okMT km_X12_saying (1126, 71) = true := by decide +kernel
set_option maxRecDepth 100000 in
theorem ok_X12_isSo : okMT km_X12_isSo (1154, 71) = true := by decide +kernel
set_option maxRecDepth 100000 in
theorem ok_X12_goesThrough : okMT km_X12_goesThrough (1151, 71) = true := by decide +kernel
set_option maxRecDepth 100000 in
theorem ok_X12_looks : okMT km_X12_looks (1147, 71) = true := by decide +kernel
set_option maxRecDepth 100000 in
theorem ok_X12_stateOf : okMT km_X12_stateOf (1214, 71) = true := by decide +kernel
set_option maxRecDepth 100000 in
theorem ok_X12_isTrue : okMT km_X12_isTrue (1238, 71) = true := by decide +kernel
set_option maxRecDepth 100000 in
theorem ok_X12_thing : okMT km_X12_thing (1131, 71) = true := by decide +kernel
set_option maxRecDepth 100000 in
theorem ok_X12_put : okMT km_X12_put (1135, 71) = true := by decide +kernel
set_option maxRecDepth 100000 in
theorem ok_X12_of : okMT km_X12_of (1143, 71) = true := by decide +kernel
set_option maxRecDepth 100000 in
theorem ok_X12_way : okMT km_X12_way (1158, 71) = true := by decide +kernel
set_option maxRecDepth 100000 in
theorem ok_X12_takesAt : okMT km_X12_takesAt (1174, 71) = true := by decide +kernel
set_option maxRecDepth 100000 in
theorem ok_X12_takes : okMT km_X12_takes (1170, 71) = true := by decide +kernel
set_option maxRecDepth 100000 in
theorem ok_X12_costsOf : okMT km_X12_costsOf (1178, 71) = true := by decide +kernel
set_option maxRecDepth 100000 in
theorem ok_X12_at : okMT km_X12_at (1162, 71) = true := by decide +kernel
set_option maxRecDepth 100000 in
theorem ok_X12_bribe : okMT km_X12_bribe (1182, 71) = true := by decide +kernel
set_option maxRecDepth 100000 in
theorem ok_X12_now : okMT km_X12_now (1186, 71) = true := by decide +kernel
set_option maxRecDepth 100000 in
theorem ok_X12_hour : okMT km_X12_hour (1190, 71) = true := by decide +kernel
set_option maxRecDepth 100000 in
theorem ok_X12_beginsAll : okMT km_X12_beginsAll (1211, 71) = true := by decide +kernel
set_option maxRecDepth 100000 in
theorem ok_X12_statesNow : okMT km_X12_statesNow (1207, 71) = true := by decide +kernel
set_option maxRecDepth 100000 in
theorem ok_X12_goesOn : okMT km_X12_goesOn (1222, 71) = true := by decide +kernel
set_option maxRecDepth 100000 in
theorem ok_X12_goesAll : okMT km_X12_goesAll (1218, 71) = true := by decide +kernel
set_option maxRecDepth 100000 in
theorem ok_X12_oftenOf : okMT km_X12_oftenOf (1234, 71) = true := by decide +kernel
set_option maxRecDepth 100000 in
theorem ok_X12_allStates : okMT km_X12_allStates (1230, 71) = true := by decide +kernel
set_option maxRecDepth 100000 in
theorem ok_X12_twos : okMT km_X12_twos (1245, 71) = true := by decide +kernel
set_option maxRecDepth 100000 in
theorem ok_X12_allOften : okMT km_X12_allOften (1242, 71) = true := by decide +kernel
set_option maxRecDepth 100000 in
theorem ok_X12_oftenTrue : okMT km_X12_oftenTrue (1226, 71) = true := by decide +kernel
set_option maxRecDepth 100000 in
theorem ok_X12_heardTrue : okMT km_X12_heardTrue (1203, 71) = true := by decide +kernel
set_option maxRecDepth 100000 in
theorem ok_X12_lowest : okMT km_X12_lowest (1248, 71) = true := by decide +kernel
set_option maxRecDepth 100000 in
theorem ok_X12_odds : okMT km_X12_odds (1194, 71) = true := by decide +kernel
set_option maxRecDepth 100000 in
theorem ok_X12_sure : okMT km_X12_sure (1252, 71) = true := by decide +kernel
set_option maxRecDepth 100000 in
theorem ok_X12_tell : okMT km_X12_tell (1256, 71) = true := by decide +kernel
set_option maxRecDepth 100000 in
theorem ok_X12_isBetter : okMT km_X12_isBetter (1264, 71) = true := by decide +kernel
set_option maxRecDepth 100000 in
theorem ok_X12_which : okMT km_X12_which (1260, 71) = true := by decide +kernel
set_option maxRecDepth 100000 in
theorem ok_X12_worth : okMT km_X12_worth (1268, 71) = true := by decide +kernel
set_option maxRecDepth 100000 in
theorem ok_X12_mayBegin : okMT km_X12_mayBegin (1276, 71) = true := by decide +kernel
set_option maxRecDepth 100000 in
theorem ok_X12_mayBecome : okMT km_X12_mayBecome (1284, 71) = true := by decide +kernel
set_option maxRecDepth 100000 in
theorem ok_X12_mayGo : okMT km_X12_mayGo (1280, 71) = true := by decide +kernel
set_option maxRecDepth 100000 in
theorem ok_X12_isSurely : okMT km_X12_isSurely (1288, 71) = true := by decide +kernel
set_option maxRecDepth 100000 in
theorem ok_X12_sit : okMT km_X12_sit (1272, 71) = true := by decide +kernel
set_option maxRecDepth 100000 in
theorem ok_X12_catches : okMT km_X12_catches (1292, 71) = true := by decide +kernel
set_option maxRecDepth 100000 in
theorem ok_X12_all : okMT km_X12_all (1296, 71) = true := by decide +kernel
set_option maxRecDepth 100000 in
theorem ok_X12_begin : okMT km_X12_begin (1300, 71) = true := by decide +kernel
set_option maxRecDepth 100000 in
theorem ok_X12_looksForReach : okMT km_X12_looksForReach (1304, 71) = true := by decide +kernel
set_option maxRecDepth 100000 in
theorem ok_X12_reachesTruth : okMT km_X12_reachesTruth (1308, 71) = true := by decide +kernel
set_option maxRecDepth 100000 in
theorem ok_X12_heed : okMT km_X12_heed (1312, 71) = true := by decide +kernel
set_option maxRecDepth 100000 in
theorem ok_X12_heededBy : okMT km_X12_heededBy (1320, 71) = true := by decide +kernel
set_option maxRecDepth 100000 in
theorem ok_X12_self : okMT km_X12_self (1316, 71) = true := by decide +kernel
set_option maxRecDepth 100000 in
theorem ok_X12_back : okMT km_X12_back (1324, 71) = true := by decide +kernel
set_option maxRecDepth 100000 in
theorem ok_X12_row : okMT km_X12_row (1328, 71) = true := by decide +kernel
set_option maxRecDepth 100000 in
theorem ok_X12_looked : okMT km_X12_looked (1332, 71) = true := by decide +kernel
set_option maxRecDepth 100000 in
theorem ok_X12_ranBody : okMT km_X12_ranBody (1347, 71) = true := by decide +kernel
set_option maxRecDepth 100000 in
theorem ok_X12_isUnder : okMT km_X12_isUnder (1343, 71) = true := by decide +kernel
set_option maxRecDepth 100000 in
theorem ok_X12_plainSends : okMT km_X12_plainSends (1351, 71) = true := by decide +kernel
set_option maxRecDepth 100000 in
theorem ok_X12_sendsActs : okMT km_X12_sendsActs (1340, 71) = true := by decide +kernel
set_option maxRecDepth 100000 in
theorem ok_X12_plainTakes : okMT km_X12_plainTakes (1359, 71) = true := by decide +kernel
set_option maxRecDepth 100000 in
theorem ok_X12_takesActs : okMT km_X12_takesActs (1355, 71) = true := by decide +kernel
set_option maxRecDepth 100000 in
theorem ok_X12_plainTells : okMT km_X12_plainTells (1367, 71) = true := by decide +kernel
set_option maxRecDepth 100000 in
theorem ok_X12_tellsActs : okMT km_X12_tellsActs (1363, 71) = true := by decide +kernel
set_option maxRecDepth 100000 in
theorem ok_X12_act : okMT km_X12_act (1336, 71) = true := by decide +kernel
set_option maxRecDepth 100000 in
theorem ok_X12_trace : okMT km_X12_trace (1371, 71) = true := by decide +kernel
set_option maxRecDepth 100000 in
theorem ok_X12_as : okMT km_X12_as (1375, 71) = true := by decide +kernel
set_option maxRecDepth 100000 in
theorem ok_X12_image : okMT km_X12_image (1379, 71) = true := by decide +kernel
set_option maxRecDepth 100000 in
theorem ok_X12_undo : okMT km_X12_undo (1383, 71) = true := by decide +kernel
set_option maxRecDepth 100000 in
theorem ok_X12_count : okMT km_X12_count (1387, 71) = true := by decide +kernel
set_option maxRecDepth 100000 in
theorem ok_J0_length_8abf5 : okMT km_J0_length_8abf5 (271, 72) = true := by decide +kernel
set_option maxRecDepth 100000 in
theorem ok_J0_charAt_5068e : okMT km_J0_charAt_5068e (281, 72) = true := by decide +kernel
set_option maxRecDepth 100000 in
theorem ok_J0_indexOf_0f7a4 : okMT km_J0_indexOf_0f7a4 (341, 72) = true := by decide +kernel
set_option maxRecDepth 100000 in
theorem ok_J0_indexOf_7cf53 : okMT km_J0_indexOf_7cf53 (345, 72) = true := by decide +kernel
set_option maxRecDepth 100000 in
theorem ok_J0_coder_7d493 : okMT km_J0_coder_7d493 (275, 72) = true := by decide +kernel
set_option maxRecDepth 100000 in
theorem ok_J0_isLatin1_aae02 : okMT km_J0_isLatin1_aae02 (285, 72) = true := by decide +kernel
set_option maxRecDepth 100000 in
theorem ok_J0_checkIndex_df160 : okMT km_J0_checkIndex_df160 (291, 72) = true := by decide +kernel
set_option maxRecDepth 100000 in
theorem ok_J1_charAt_3b067 : okMT km_J1_charAt_3b067 (288, 73) = true := by decide +kernel
set_option maxRecDepth 100000 in
theorem ok_J1_canEncode_9a6ad : okMT km_J1_canEncode_9a6ad (352, 73) = true := by decide +kernel
set_option maxRecDepth 100000 in
theorem ok_J1_indexOf_4cfef : okMT km_J1_indexOf_4cfef (349, 73) = true := by decide +kernel
set_option maxRecDepth 100000 in
theorem ok_J1_indexOfChar_4cfef : okMT km_J1_indexOfChar_4cfef (361, 73) = true := by decide +kernel
set_option maxRecDepth 100000 in
theorem ok_J7_copyOf_59c91 : okMT km_J7_copyOf_59c91 (413, 79) = true := by decide +kernel
set_option maxRecDepth 100000 in
theorem ok_J3_checkIndex_8e157 : okMT km_J3_checkIndex_8e157 (296, 74) = true := by decide +kernel
