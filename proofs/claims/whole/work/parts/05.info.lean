/-! WHAT THE WORDS SAY, by program (gen4.py): methods, fields, links by number, each with its word among the good ones of the tables -/
def wT : List Cond := lw_tbl.filter goodWord
theorem wT_in {w : Cond} (i : Nat) (h : lw_tbl[i]? = some w) (g : goodWord w = true) : w ∈ wT := List.mem_filter.mpr ⟨List.mem_of_getElem? h, g⟩
theorem wT_good {w : Cond} (h : w ∈ wT) : goodWord w = true := (List.mem_filter.mp h).2
theorem wT_tbl {w : Cond} (h : w ∈ wT) : w ∈ lw_tbl := (List.mem_filter.mp h).1
/-- a row of words by their places -/
theorem wT_all {α : Type} (F : α → Cond) (l : List (Nat × α)) (h : l.all (fun q => decide (lw_tbl[q.1]? = some (F q.2)) && goodWord (F q.2)) = true) : ∀ q ∈ l, F q.2 ∈ wT := by
  intro q hq
  have h1 := List.all_eq_true.mp h q hq
  simp only [Bool.and_eq_true, decide_eq_true_eq] at h1
  exact wT_in q.1 h1.1 h1.2
def owS : List String := [RX0, RX1, RX2, RX3, RX4, RX5, RX6, RX7, RX8, RX9, RX10, RX11, RL, RJ6, RJ9, RJ7]
def oS (i : Nat) : String := owS.getD i ""
def fW (r : Nat × Nat × Nat × Nat) : Cond := match vwCl[r.2.2.1]? with
  | some q => .fieldLink (oS r.1) r.2.1 (q.2.1 r.2.2.2).1 (q.2.1 r.2.2.2).2.1 (q.2.1 r.2.2.2).2.2.1
  | none => .tt
def FLp : List (Nat × Nat × Nat × Nat × Nat) := [(264, 0, 9, 0, 0), (265, 0, 15, 0, 1), (266, 0, 48, 0, 2), (245, 1, 9, 1, 0), (246, 1, 15, 1, 1), (247, 1, 18, 1, 2), (248, 1, 21, 1, 3), (404, 2, 7, 2, 0), (406, 2, 13, 2, 1), (408, 2, 17, 2, 2), (495, 3, 9, 3, 1), (496, 3, 15, 3, 2), (497, 3, 18, 3, 3), (499, 3, 21, 3, 4), (494, 3, 25, 3, 0), (213, 3, 33, 7, 6), (200, 3, 44, 7, 3), (216, 3, 47, 7, 7), (170, 4, 9, 4, 0), (171, 4, 15, 4, 1), (202, 4, 24, 7, 4), (172, 4, 30, 4, 2), (207, 4, 31, 7, 5), (173, 4, 34, 4, 3), (289, 5, 9, 5, 1), (291, 5, 15, 5, 2), (293, 5, 18, 5, 3), (295, 5, 21, 5, 4), (297, 5, 24, 5, 5), (287, 5, 27, 5, 0), (192, 5, 31, 7, 0), (219, 5, 46, 7, 8), (301, 5, 50, 5, 7), (298, 5, 51, 5, 6), (211, 5, 71, 7, 5), (197, 5, 87, 7, 2), (194, 5, 99, 7, 1), (206, 5, 115, 7, 4), (1335, 6, 7, 6, 0), (191, 7, 9, 7, 0), (193, 7, 15, 7, 1), (196, 7, 18, 7, 2), (199, 7, 21, 7, 3), (215, 7, 24, 7, 7), (218, 7, 28, 7, 8), (203, 7, 55, 7, 4), (210, 7, 68, 7, 5), (212, 7, 76, 7, 6), (139, 8, 9, 8, 0), (142, 8, 15, 8, 2), (140, 8, 19, 8, 1), (145, 8, 22, 8, 4), (146, 8, 25, 8, 5), (147, 8, 28, 8, 6), (144, 8, 31, 8, 3), (848, 9, 11, 9, 0), (849, 9, 15, 9, 1), (850, 9, 18, 9, 2), (851, 9, 21, 9, 3), (852, 9, 26, 9, 4), (853, 9, 33, 9, 5), (208, 9, 55, 7, 5), (204, 9, 60, 7, 4), (854, 9, 96, 9, 6), (856, 9, 114, 9, 7), (858, 9, 117, 9, 8), (300, 9, 135, 5, 6), (320, 10, 10, 10, 0), (321, 10, 19, 10, 1), (322, 10, 25, 10, 2), (323, 10, 32, 10, 3), (324, 10, 39, 10, 4), (325, 10, 46, 10, 5), (326, 10, 55, 10, 6), (327, 10, 59, 10, 7), (141, 10, 70, 8, 1), (209, 10, 89, 7, 5), (329, 10, 93, 10, 9), (328, 10, 106, 10, 8), (857, 10, 114, 9, 8), (331, 10, 117, 10, 11), (855, 10, 120, 9, 7), (205, 10, 123, 7, 4), (267, 10, 129, 0, 2), (143, 10, 132, 8, 2), (330, 10, 139, 10, 10), (214, 10, 142, 7, 6), (299, 10, 145, 5, 6), (302, 10, 148, 5, 7), (217, 10, 160, 7, 7), (290, 10, 169, 5, 1), (195, 10, 186, 7, 1), (198, 10, 189, 7, 2), (292, 10, 192, 5, 2), (294, 10, 195, 5, 3), (296, 10, 198, 5, 4), (201, 10, 217, 7, 3), (500, 10, 310, 3, 4), (498, 10, 313, 3, 3), (332, 10, 340, 10, 12), (333, 10, 343, 10, 13), (405, 10, 361, 2, 0), (407, 10, 364, 2, 1), (409, 10, 365, 2, 2), (1379, 11, 3, 11, 0), (1380, 11, 7, 11, 1), (1387, 11, 17, 11, 8), (1388, 11, 20, 11, 9), (1389, 11, 23, 11, 10), (1390, 11, 26, 11, 11), (1391, 11, 29, 11, 12), (1392, 11, 32, 11, 13), (1393, 11, 35, 11, 14), (1394, 11, 38, 11, 15), (1395, 11, 41, 11, 16), (1405, 11, 44, 11, 26), (1406, 11, 47, 11, 27), (1407, 11, 50, 11, 28), (1408, 11, 53, 11, 29), (1409, 11, 56, 11, 30), (1412, 11, 59, 11, 33), (1413, 11, 62, 11, 34), (1414, 11, 65, 11, 35), (1421, 11, 68, 11, 42), (1422, 11, 71, 11, 43), (1423, 11, 74, 11, 44), (1424, 11, 77, 11, 45), (1425, 11, 80, 11, 46), (1426, 11, 83, 11, 47), (1428, 11, 86, 11, 49), (1429, 11, 89, 11, 50), (1430, 11, 92, 11, 51), (1432, 11, 95, 11, 53), (1381, 11, 104, 11, 2), (1384, 11, 107, 11, 5), (1385, 11, 110, 11, 6), (1383, 11, 113, 11, 4), (1382, 11, 116, 11, 3), (1386, 11, 147, 11, 7), (1396, 11, 150, 11, 17), (1397, 11, 153, 11, 18), (1398, 11, 156, 11, 19), (1399, 11, 159, 11, 20), (1400, 11, 162, 11, 21), (1401, 11, 165, 11, 22), (1402, 11, 168, 11, 23), (1403, 11, 171, 11, 24), (1404, 11, 174, 11, 25), (1411, 11, 181, 11, 32), (1427, 11, 184, 11, 48), (1416, 11, 187, 11, 37), (1433, 11, 190, 11, 54), (1417, 11, 193, 11, 38), (1410, 11, 253, 11, 31), (1415, 11, 299, 11, 36), (1418, 11, 322, 11, 39), (1419, 11, 325, 11, 40), (1420, 11, 328, 11, 41), (1431, 11, 427, 11, 52)]
def FLs : List (Nat × Nat × Nat × Nat) := FLp.map (·.2)
set_option maxRecDepth 100000 in
theorem FL_ok : ∀ r ∈ FLs, fW r ∈ wT := by
  intro r hr
  obtain ⟨q, hq, rfl⟩ := List.mem_map.mp hr
  exact wT_all fW FLp (by decide +kernel) q hq
def mI_0 : List (MethodName × ByteArray × Option FieldType) := [(yX0_init, cX0_init, none), (yX0_hasLine, cX0_hasLine, some .boolean), (yX0_amountOn, cX0_amountOn, some .int), (yX0_read, cX0_read, some .boolean), (yX0_readLine, cX0_readLine, some .boolean), (yX1_init, cX1_init, none), (yX1_askPlace, cX1_askPlace, none), (yX1_askPerson, cX1_askPerson, none), (yX1_askTime, cX1_askTime, none), (yX1_result, cX1_result, some .int), (yX1_valueOf, cX1_valueOf, some .int), (yX1_join, cX1_join, some .int), (yX1_read, cX1_read, some .boolean), (yX1_readSum, cX1_readSum, some .boolean), (yX1_readProduct, cX1_readProduct, some .boolean), (yX1_readUnit, cX1_readUnit, some .boolean)]
def mI_1 : List (MethodName × ByteArray × Option FieldType) := [(yX1_readBracket, cX1_readBracket, some .boolean), (yX1_readPair, cX1_readPair, some .boolean), (yX1_variableNamed, cX1_variableNamed, some .int), (yX1_add, cX1_add, some .boolean), (yX2_init, cX2_init, none), (yX3_init, cX3_init, none), (yX3_isFound, cX3_isFound, some .boolean), (yX3_search, cX3_search, none), (yX3_lay, cX3_lay, none), (yX4_init, cX4_init, none), (yX4_weigh, cX4_weigh, none), (yX4_mostFrom, cX4_mostFrom, some .int), (yX4_togetherBy, cX4_togetherBy, some .int), (yX4_together, cX4_together, some .int), (yX4_seatOf, cX4_seatOf, some .int), (yX4_leastSeat, cX4_leastSeat, some .int)]
def mI_2 : List (MethodName × ByteArray × Option FieldType) := [(yX5_init, cX5_init, none), (yX5_take, cX5_take, none), (yX5_letSit, cX5_letSit, some .boolean), (yX5_letRise, cX5_letRise, some .boolean), (yX5_giveMeal, cX5_giveMeal, some .boolean), (yX5_drawCurtain, cX5_drawCurtain, some .boolean), (yX5_passDay, cX5_passDay, none), (yX5_markOn, cX5_markOn, some .int), (yX5_markToday, cX5_markToday, some .int), (yX5_firstMark, cX5_firstMark, some .int), (yX5_sits, cX5_sits, some .boolean), (yX5_whoSits, cX5_whoSits, some .int), (yX5_whoIsOn, cX5_whoIsOn, some .int), (yX5_cellOf, cX5_cellOf, some .int), (yX5_amount, cX5_amount, some .int), (yX5_onSeat, cX5_onSeat, some .int)]
def mI_3 : List (MethodName × ByteArray × Option FieldType) := [(yX5_onPlate, cX5_onPlate, some .int), (yX5_allOf, cX5_allOf, some .int), (yX5_selvesOf, cX5_selvesOf, some .int), (yX5_seenOn, cX5_seenOn, some .int), (yX5_whereSeen, cX5_whereSeen, some .int), (yX5_unseen, cX5_unseen, some .int), (yX6_init, cX6_init, none), (yX6_nextBelow, cX6_nextBelow, some .int), (yX7_init, cX7_init, none), (yX7_read, cX7_read, some .boolean), (yX7_readClause, cX7_readClause, some .boolean), (yX7_hasRoom, cX7_hasRoom, some .boolean), (yX7_readSeat, cX7_readSeat, some .boolean), (yX7_readSitter, cX7_readSitter, some .boolean), (yX7_readSitting, cX7_readSitting, some .boolean), (yX7_readYear, cX7_readYear, some .boolean)]
def mI_4 : List (MethodName × ByteArray × Option FieldType) := [(yX7_readFood, cX7_readFood, some .boolean), (yX8_init, cX8_init, none), (yX8_hasRoom, cX8_hasRoom, some .boolean), (yX8_put, cX8_put, none), (yX8_open, cX8_open, none), (yX8_faultAnswer, cX8_faultAnswer, some .int), (yX8_peek, cX8_peek, some .int), (yX8_skip, cX8_skip, none), (yX8_sign, cX8_sign, some .boolean), (yX8_readWord, cX8_readWord, some .boolean), (yX8_wordIs, cX8_wordIs, some .boolean), (yX8_readNumber, cX8_readNumber, some .int), (yX8_failHere, cX8_failHere, some .boolean), (yX8_failAtStart, cX8_failAtStart, some .boolean), (yX8_startHere, cX8_startHere, none), (yX8_byteAt, cX8_byteAt, some .int)]
def mI_5 : List (MethodName × ByteArray × Option FieldType) := [(yX8_isLetter, cX8_isLetter, some .boolean), (yX8_isDigit, cX8_isDigit, some .boolean), (yX9_init, cX9_init, none), (yX9_read, cX9_read, some .boolean), (yX9_readStep, cX9_readStep, some .boolean), (yX9_readNumbered, cX9_readNumbered, some .boolean), (yX9_readAgain, cX9_readAgain, some .boolean), (yX9_readEnd, cX9_readEnd, some .boolean), (yX9_add, cX9_add, some .boolean), (yX9_run, cX9_run, none), (yX9_intoAgain, cX9_intoAgain, some .int), (yX9_behindRound, cX9_behindRound, some .int), (yX9_tryStep, cX9_tryStep, some .boolean), (yX10_init, cX10_init, none), (yX10_feed, cX10_feed, some .int), (yX10_studio, cX10_studio, some .int)]
def mI_6 : List (MethodName × ByteArray × Option FieldType) := [(yX10_law, cX10_law, some .int), (yX10_work, cX10_work, some .int), (yX10_book, cX10_book, some .int), (yX10_fault, cX10_fault, some .int), (yX10_undo, cX10_undo, some .int), (yX10_image, cX10_image, some .int), (yX10_restore, cX10_restore, some .int), (yX10_told, cX10_told, some .int), (yX10_seat, cX10_seat, some .int), (yX10_sitter, cX10_sitter, some .int), (yX10_plate, cX10_plate, some .int), (yX10_sitting, cX10_sitting, some .int), (yX10_mark, cX10_mark, some .int), (yX10_would, cX10_would, some .int), (yX10_share, cX10_share, some .int), (yX10_ahead, cX10_ahead, some .int)]
def mI_7 : List (MethodName × ByteArray × Option FieldType) := [(yX10_when, cX10_when, some .int), (yX10_meals, cX10_meals, some .int), (yX10_need, cX10_need, some .int), (yX10_rising, cX10_rising, some .int), (yX10_gains, cX10_gains, some .int), (yX10_goings, cX10_goings, some .int), (yX10_bright, cX10_bright, some .int), (yX10_places, cX10_places, some .int), (yX10_placed, cX10_placed, some .int), (yX10_packing, cX10_packing, some .int), (yX10_packed, cX10_packed, some .int), (yX10_well, cX10_well, some .long), (yX10_getsUp, cX10_getsUp, some .int), (yX10_food, cX10_food, some .int), (yX10_darkest, cX10_darkest, some .int), (yX10_stillest, cX10_stillest, some .int)]
def mI_8 : List (MethodName × ByteArray × Option FieldType) := [(yX10_stains, cX10_stains, some .int), (yX10_hungriest, cX10_hungriest, some .int), (yX10_brightest, cX10_brightest, some .int), (yX10_empty, cX10_empty, some .int), (yX10_absent, cX10_absent, some .int), (yX10_crowd, cX10_crowd, some .int), (yX10_lead, cX10_lead, some .int), (yX10_season, cX10_season, some .int), (yX10_span, cX10_span, some .int), (yX10_status, cX10_status, some .int), (yX10_count, cX10_count, some .int), (yX10_refuseArgument, cX10_refuseArgument, some .int), (yX10_refuseElement, cX10_refuseElement, some .int), (yX10_needRange, cX10_needRange, none), (yX10_needSeat, cX10_needSeat, none), (yX10_needSitter, cX10_needSitter, none)]
def mI_9 : List (MethodName × ByteArray × Option FieldType) := [(yX10_needSitting, cX10_needSitting, none), (yX10_openText, cX10_openText, none), (yX10_begin, cX10_begin, none), (yX10_momentNow, cX10_momentNow, some (.object "StillYear$Moment")), (yX10_goBack, cX10_goBack, none), (yX10_mealsFor, cX10_mealsFor, some .int), (yX10_daysOn, cX10_daysOn, some .int), (yX10_choices, cX10_choices, some .long), (yX10_givenWithin, cX10_givenWithin, some .int), (yX10_has, cX10_has, some .int), (yX10_rests, cX10_rests, some .boolean), (yX10_playSeason, cX10_playSeason, none), (yX10_playDrawnSteps, cX10_playDrawnSteps, none), (yX10_pick, cX10_pick, some .int), (yX10_hasBit, cX10_hasBit, some .boolean), (yX10_greatestCommon, cX10_greatestCommon, some .int)]
def mI_10 : List (MethodName × ByteArray × Option FieldType) := [(yX11_thrown, cX11_thrown, some .int), (yX11_may, cX11_may, some .boolean), (yX11_within, cX11_within, some .boolean), (yX11_init, cX11_init, none), (yX11_feed, cX11_feed, some .int), (yX11_fine, cX11_fine, some .boolean), (yX11_wrong, cX11_wrong, none), (yX11_here, cX11_here, some .int), (yX11_isSmall, cX11_isSmall, some .boolean), (yX11_isDigit, cX11_isDigit, some .boolean), (yX11_word, cX11_word, some .int), (yX11_of, cX11_of, some .int), (yX11_pass, cX11_pass, none), (yX11_readNumber, cX11_readNumber, some .int), (yX11_sign, cX11_sign, none), (yX11_isMore, cX11_isMore, some .boolean)]
def mI_11 : List (MethodName × ByteArray × Option FieldType) := [(yX11_begins, cX11_begins, none), (yX11_result, cX11_result, some .int), (yX11_fault, cX11_fault, some .int), (yX11_copies, cX11_copies, none), (yX11_clears, cX11_clears, none), (yX11_sets, cX11_sets, none), (yX11_isShort, cX11_isShort, some .boolean), (yX11_isFull, cX11_isFull, some .boolean), (yX11_readRow, cX11_readRow, none), (yX11_studio, cX11_studio, some .int), (yX11_emit, cX11_emit, none), (yX11_opensOne, cX11_opensOne, none), (yX11_readSum, cX11_readSum, none), (yX11_readProduct, cX11_readProduct, none), (yX11_readTwo, cX11_readTwo, none), (yX11_standsHere, cX11_standsHere, some .boolean)]
def mI_12 : List (MethodName × ByteArray × Option FieldType) := [(yX11_factHere, cX11_factHere, some .int), (yX11_readUnit, cX11_readUnit, none), (yX11_law, cX11_law, some .int), (yX11_valueNow, cX11_valueNow, some .int), (yX11_both, cX11_both, some .int), (yX11_markNow, cX11_markNow, some .int), (yX11_tellsStep, cX11_tellsStep, none), (yX11_readStep, cX11_readStep, none), (yX11_work, cX11_work, some .int), (yX11_goesSteps, cX11_goesSteps, none), (yX11_take, cX11_take, none), (yX11_markOf, cX11_markOf, some .int), (yX11_sitsAll, cX11_sitsAll, some .int), (yX11_ones, cX11_ones, some .int), (yX11_markBy, cX11_markBy, some .int), (yX11_onSeat, cX11_onSeat, some .int)]
def mI_13 : List (MethodName × ByteArray × Option FieldType) := [(yX11_rises, cX11_rises, none), (yX11_sits, cX11_sits, some .boolean), (yX11_feeds, cX11_feeds, some .boolean), (yX11_goes, cX11_goes, some .boolean), (yX11_passes, cX11_passes, none), (yX11_allOn, cX11_allOn, some .int), (yX11_allOnPlate, cX11_allOnPlate, some .int), (yX11_seenOn, cX11_seenOn, some .int), (yX11_unseen, cX11_unseen, some .int), (yX11_book, cX11_book, some .int), (yX11_undo, cX11_undo, some .int), (yX11_told, cX11_told, some .int), (yX11_isSeat, cX11_isSeat, some .boolean), (yX11_isSitter, cX11_isSitter, some .boolean), (yX11_seat, cX11_seat, some .int), (yX11_ofHim, cX11_ofHim, some .int)]
def mI_14 : List (MethodName × ByteArray × Option FieldType) := [(yX11_sitter, cX11_sitter, some .int), (yX11_plate, cX11_plate, some .int), (yX11_sitting, cX11_sitting, some .int), (yX11_mark, cX11_mark, some .int), (yX11_would, cX11_would, some .int), (yX11_least, cX11_least, some .long), (yX11_share, cX11_share, some .int), (yX11_ahead, cX11_ahead, some .int), (yX11_when, cX11_when, some .int), (yX11_meals, cX11_meals, some .int), (yX11_mealsOf, cX11_mealsOf, some .int), (yX11_firstMark, cX11_firstMark, some .int), (yX11_among, cX11_among, some .long), (yX11_goings, cX11_goings, some .int), (yX11_bright, cX11_bright, some .int), (yX11_layPlaces, cX11_layPlaces, none)]
def mI_15 : List (MethodName × ByteArray × Option FieldType) := [(yX11_places, cX11_places, some .int), (yX11_placed, cX11_placed, some .int), (yX11_lays, cX11_lays, some .boolean), (yX11_findPacking, cX11_findPacking, some .int), (yX11_packing, cX11_packing, some .int), (yX11_packed, cX11_packed, some .int), (yX11_well, cX11_well, some .long), (yX11_hasBy, cX11_hasBy, some .int), (yX11_getsUp, cX11_getsUp, some .int), (yX11_givenBy, cX11_givenBy, some .int), (yX11_food, cX11_food, some .int), (yX11_darkest, cX11_darkest, some .int), (yX11_stillest, cX11_stillest, some .int), (yX11_stains, cX11_stains, some .int), (yX11_hungriest, cX11_hungriest, some .int), (yX11_brightest, cX11_brightest, some .int)]
def mI_16 : List (MethodName × ByteArray × Option FieldType) := [(yX11_empty, cX11_empty, some .int), (yX11_rising, cX11_rising, some .int), (yX11_gains, cX11_gains, some .int), (yX11_absent, cX11_absent, some .int), (yX11_crowd, cX11_crowd, some .int), (yX11_need, cX11_need, some .int), (yX11_lead, cX11_lead, some .int), (yX11_draws, cX11_draws, some .int), (yX11_seasonGoes, cX11_seasonGoes, none), (yX11_isSeason, cX11_isSeason, some .boolean), (yX11_season, cX11_season, some .int), (yX11_span, cX11_span, some .int), (yX11_keepsRow, cX11_keepsRow, some .int), (yX11_keepsAll, cX11_keepsAll, none), (yX11_image, cX11_image, some .int), (yX11_restore, cX11_restore, some .int)]
def mI_17 : List (MethodName × ByteArray × Option FieldType) := [(yX11_status, cX11_status, some .int), (yX11_count, cX11_count, some .int), (yL_studio, cL_studio, some .int), (yL_law, cL_law, some .int), (yL_work, cL_work, some .int), (yL_book, cL_book, some .int), (yL_told, cL_told, some .int), (yL_seat, cL_seat, some .int), (yL_sitter, cL_sitter, some .int), (yL_plate, cL_plate, some .int), (yL_sitting, cL_sitting, some .int), (yL_mark, cL_mark, some .int), (yL_would, cL_would, some .int), (yL_share, cL_share, some .int), (yL_ahead, cL_ahead, some .int), (yL_when, cL_when, some .int)]
def mI_18 : List (MethodName × ByteArray × Option FieldType) := [(yL_meals, cL_meals, some .int), (yL_goings, cL_goings, some .int), (yL_bright, cL_bright, some .int), (yL_placed, cL_placed, some .int), (yL_packed, cL_packed, some .int), (yL_well, cL_well, some .int), (yL_getsUp, cL_getsUp, some .int), (yL_food, cL_food, some .int), (yL_darkest, cL_darkest, some .int), (yL_stillest, cL_stillest, some .int), (yL_stains, cL_stains, some .int), (yL_hungriest, cL_hungriest, some .int), (yL_brightest, cL_brightest, some .int), (yL_empty, cL_empty, some .int), (yL_rising, cL_rising, some .int), (yL_gains, cL_gains, some .int)]
def mI_19 : List (MethodName × ByteArray × Option FieldType) := [(yL_crowd, cL_crowd, some .int), (yL_need, cL_need, some .int), (yL_lead, cL_lead, some .int), (yL_season, cL_season, some .int), (yL_span, cL_span, some .int), (x, code, ret), (yJ6_bitCount_0f7a4, cJ6_bitCount_0f7a4, some .int), (yJ7_fill_53178, cJ7_fill_53178, none)]
def mI : List (List (MethodName × ByteArray × Option FieldType)) := [mI_0, mI_1, mI_2, mI_3, mI_4, mI_5, mI_6, mI_7, mI_8, mI_9, mI_10, mI_11, mI_12, mI_13, mI_14, mI_15, mI_16, mI_17, mI_18, mI_19]
def mR (M : Nat) : MethodName × ByteArray × Option FieldType := (mI.getD (M / 16) []).getD (M % 16) (objectInit, ⟨#[]⟩, none)
abbrev mY (M : Nat) : MethodName := (mR M).1
abbrev mB (M : Nat) : ByteArray := (mR M).2.1
abbrev mT (M : Nat) : Option FieldType := (mR M).2.2
def mKl : List (List Nat) := [[2, 0, 0, 0, 0, 2, 0, 0, 0, 0, 0, 1, 0, 0, 0, 0], [0, 0, 1, 0, 2, 2, 0, 0, 0, 2, 0, 0, 0, 0, 0, 0], [2, 0, 0, 0, 0, 0, 0, 0, 0, 0, 0, 0, 0, 1, 0, 0], [0, 0, 0, 0, 0, 0, 2, 0, 2, 0, 0, 1, 0, 0, 0, 0], [0, 2, 0, 0, 0, 0, 0, 0, 0, 0, 0, 0, 0, 0, 0, 0], [1, 1, 2, 0, 0, 0, 0, 0, 0, 0, 0, 0, 0, 2, 0, 0], [0, 0, 0, 0, 0, 0, 0, 0, 0, 0, 0, 0, 0, 0, 0, 0], [0, 0, 0, 0, 0, 0, 0, 0, 0, 0, 0, 0, 0, 0, 0, 0], [0, 0, 0, 0, 0, 0, 0, 0, 0, 0, 0, 0, 0, 0, 0, 0], [0, 0, 0, 0, 0, 0, 0, 1, 0, 1, 1, 0, 0, 1, 1, 1], [0, 0, 1, 2, 0, 0, 0, 0, 1, 1, 0, 1, 0, 0, 0, 0], [0, 0, 0, 0, 0, 0, 1, 0, 0, 0, 0, 0, 0, 0, 0, 0], [0, 0, 0, 0, 1, 0, 0, 0, 0, 0, 0, 0, 0, 1, 0, 0], [0, 0, 0, 0, 0, 0, 0, 0, 0, 0, 0, 0, 0, 0, 0, 0], [0, 0, 0, 0, 0, 1, 0, 0, 0, 0, 0, 0, 1, 0, 0, 0], [0, 0, 0, 0, 0, 0, 0, 1, 0, 0, 0, 0, 0, 0, 0, 0], [0, 0, 0, 0, 0, 0, 0, 0, 0, 1, 0, 0, 0, 0, 0, 0], [0, 0, 3, 3, 3, 3, 3, 3, 3, 3, 3, 3, 3, 3, 3, 3], [3, 3, 3, 3, 3, 3, 3, 3, 3, 3, 3, 3, 3, 3, 3, 3], [3, 3, 3, 3, 3, 4, 1, 1]]
def mK (M : Nat) : Nat := (mKl.getD (M / 16) []).getD (M % 16) 9
def pHr : List (List (Nat × Nat × Nat × Nat)) := [[(0, 9, 12, 13)], [(0, 9, 12, 13)], [(0, 9, 12, 13)], [(0, 9, 12, 13)], [(0, 9, 12, 13)], [(0, 10, 13, 31), (0, 10, 17, 13)], [(0, 10, 13, 31), (0, 10, 17, 13)], [(0, 10, 13, 31)], [(0, 9, 12, 31)], [(0, 9, 12, 31)], [(0, 22, 25, 13)], [(0, 12, 15, 31), (0, 12, 19, 13)], [(0, 10, 13, 13)], [(0, 9, 12, 31)], [(0, 10, 13, 31), (0, 10, 17, 13)], [(0, 10, 13, 31), (0, 10, 17, 13)], [(0, 9, 12, 31)], [(0, 9, 12, 31)], [(0, 9, 12, 31)], [(0, 11, 14, 13)], [(0, 14, 17, 13)], [(0, 12, 15, 31), (0, 12, 19, 13)], [(0, 9, 12, 13)], [(0, 9, 12, 13)], [(0, 9, 12, 13)], [(0, 9, 12, 13)], [(0, 9, 12, 13)], [(0, 9, 12, 13)], [(0, 9, 12, 31)], [(0, 10, 13, 31)], [(0, 9, 12, 31)], [(0, 9, 12, 13)], [(0, 9, 12, 31)], [(0, 14, 17, 13)], [(0, 16, 19, 13)]]
def mH (M : Nat) : List (Nat × Nat × Nat × Nat) := bif Nat.blt M 274 then [] else pHr.getD (M - 274) []
def mC (M : Nat) : Cond := bif Nat.beq (mK M) 3 then .codeWith (mY M) (mB M) (mxL M) (mT M) (mH M) else .code (mY M) (mB M) (mxL M) (mT M)
def mW (M : Nat) : List Cond := .initialized (mY M).cls :: (match mK M with
  | 0 => [.instanceMethod (mY M), .selects (mY M).cls (mY M) (mY M)]
  | 1 => [.static (mY M)]
  | 2 => [.instanceMethod (mY M)]
  | 3 => [.static (mY M)]
  | _ => [])
def mPc : List Nat := [262, 991, 1164, 981, 986, 243, 436, 440, 444, 448, 452, 455, 781, 785, 789, 793, 804, 821, 825, 800, 402, 492, 525, 515, 519, 168, 428, 471, 478, 483, 1191, 1195, 279, 390, 935, 943, 951, 955, 959, 968, 1101, 432, 947, 963, 939, 540, 537, 1010, 1006, 1071, 533, 1018, 1067, 1014, 1333, 1346, 189, 639, 663, 719, 727, 742, 747, 752, 757, 137, 370, 374, 635, 765, 643, 813, 761, 651, 668, 731, 659, 723, 808, 647, 655, 734, 846, 881, 897, 903, 913, 886, 891, 918, 927, 923, 931, 129, 366, 556, 777, 841, 977, 378, 382, 394, 420, 1001, 1026, 1059, 1078, 1086, 1097, 1108, 1119, 1129, 1137, 1144, 1310, 1287, 1294, 1156, 1179, 424, 1187, 487, 1202, 1209, 1216, 1229, 1241, 1251, 1259, 1266, 1273, 1280, 529, 1303, 1317, 1324, 1356, 544, 548, 569, 1034, 565, 1030, 1063, 1090, 560, 769, 398, 386, 1148, 1160, 1169, 1234, 1222, 1219, 1328, 1342, 1244, 474, 1122, 1360, 1560, 1761, 1365, 1548, 1568, 1604, 1576, 1586, 1623, 1590, 1597, 1612, 1620, 1627, 1572, 1564, 1631, 1552, 1378, 1370, 1374, 1593, 1608, 1616, 1556, 1655, 1651, 1639, 1643, 1660, 1581, 1665, 1647, 1635, 1743, 1746, 1739, 1684, 1679, 1675, 1696, 1692, 1735, 1728, 1731, 1724, 1708, 1716, 1704, 1712, 1700, 1720, 1769, 1765, 1777, 1773, 1750, 1754, 1758, 1785, 1793, 1781, 1797, 1789, 1801, 1805, 1809, 1813, 1820, 1817, 1824, 1828, 1832, 1836, 1844, 1847, 1840, 1852, 1860, 1856, 1864, 1876, 1872, 1868, 1880, 1884, 1892, 1889, 1900, 1896, 1904, 1908, 1912, 1916, 1920, 1924, 1928, 1932, 1936, 1940, 1944, 1948, 1963, 1959, 1955, 1952, 1968, 1980, 1976, 1972, 1984, 1988, 1992, 551, 773, 837, 973, 997, 1021, 1055, 1074, 1082, 1093, 1104, 1115, 1125, 1133, 1140, 1152, 1175, 1183, 1198, 1205, 1212, 1225, 1237, 1247, 1255, 1262, 1269, 1276, 1283, 1290, 1299, 1306, 1313, 1320, 1352, 0, 464, 286]
def mPw : List (List Nat) := [[105, 261], [105, 989, 990], [105, 1162, 1163], [105, 979, 980], [105, 985, 32], [104, 242], [104, 434, 435], [104, 438, 439], [104, 442, 443], [104, 446, 447], [104, 451, 2], [104, 454], [104, 779, 780], [104, 784, 18], [104, 788, 19], [104, 792, 20], [104, 803, 22], [104, 820, 23], [104, 824], [104, 799, 21], [120, 401], [123, 491], [123, 523, 524], [123, 513, 514], [123, 518, 5], [102, 167], [102, 426, 427], [102, 470, 3], [102, 477, 4], [102, 481, 482], [102, 1189, 1190], [102, 1194, 39], [106, 278], [106, 388, 389], [106, 933, 934], [106, 941, 942], [106, 949, 950], [106, 953, 954], [106, 957, 958], [106, 966, 967], [106, 1099, 1100], [106, 430, 431], [106, 945, 946], [106, 961, 962], [106, 937, 938], [106, 539], [106, 535, 536], [106, 1008, 1009], [106, 1004, 1005], [106, 1069, 1070], [106, 531, 532], [106, 1016, 1017], [106, 1065, 1066], [106, 1012, 1013], [124, 1332], [124, 1344, 1345], [103, 188], [103, 637, 638], [103, 662, 11], [103, 718], [103, 726, 12], [103, 741, 13], [103, 746, 14], [103, 751, 15], [103, 756, 16], [101, 136], [101, 368, 369], [101, 372, 373], [101, 633, 634], [101, 763, 764], [101, 641, 642], [101, 811, 812], [101, 759, 760], [101, 649, 650], [101, 666, 667], [101, 729, 730], [101, 657, 658], [101, 721, 722], [101, 806, 807], [101, 646, 10], [101, 654], [101, 733], [119, 845], [119, 879, 880], [119, 896, 26], [119, 902, 27], [119, 912, 28], [119, 885, 24], [119, 890, 25], [119, 916, 917], [119, 926, 30], [119, 922, 29], [119, 930, 31], [100, 128], [100, 364, 365], [100, 554, 555], [100, 775, 776], [100, 839, 840], [100, 975, 976], [100, 376, 377], [100, 380, 381], [100, 392, 393], [100, 418, 419], [100, 999, 1000], [100, 1024, 1025], [100, 1057, 1058], [100, 1076, 1077], [100, 1084, 1085], [100, 1095, 1096], [100, 1106, 1107], [100, 1117, 1118], [100, 1127, 1128], [100, 1135, 1136], [100, 1142, 1143], [100, 1308, 1309], [100, 1285, 1286], [100, 1292, 1293], [100, 1154, 1155], [100, 1177, 1178], [100, 422, 423], [100, 1185, 1186], [100, 485, 486], [100, 1200, 1201], [100, 1207, 1208], [100, 1214, 1215], [100, 1227, 1228], [100, 1239, 1240], [100, 1249, 1250], [100, 1257, 1258], [100, 1264, 1265], [100, 1271, 1272], [100, 1278, 1279], [100, 527, 528], [100, 1301, 1302], [100, 1315, 1316], [100, 1322, 1323], [100, 1354, 1355], [100, 542, 543], [100, 546, 547], [100, 568, 8], [100, 1033, 34], [100, 564, 7], [100, 1029, 33], [100, 1062, 35], [100, 1089, 36], [100, 559, 6], [100, 768, 17], [100, 397, 1], [100, 385, 0], [100, 1147, 37], [100, 1159, 38], [100, 1168], [100, 1233, 40], [100, 1221], [100, 1218], [100, 1327, 41], [100, 1341, 42], [100, 1243], [100, 473], [100, 1121], [109, 1358, 1359], [109, 1559, 46], [109, 1760], [109, 1364], [109, 1546, 1547], [109, 1567, 48], [109, 1603, 53], [109, 1575, 50], [109, 1585], [109, 1622], [109, 1589, 52], [109, 1596], [109, 1611, 55], [109, 1619, 57], [109, 1626, 58], [109, 1571, 49], [109, 1563, 47], [109, 1630, 59], [109, 1550, 1551], [109, 1377, 45], [109, 1369, 43], [109, 1373, 44], [109, 1592], [109, 1607, 54], [109, 1615, 56], [109, 1554, 1555], [109, 1654, 64], [109, 1650, 63], [109, 1638, 60], [109, 1642, 61], [109, 1659, 65], [109, 1580, 51], [109, 1664, 66], [109, 1646, 62], [109, 1633, 1634], [109, 1742, 81], [109, 1745], [109, 1738, 80], [109, 1683, 68], [109, 1678, 67], [109, 1673, 1674], [109, 1695, 70], [109, 1691, 69], [109, 1734, 79], [109, 1727, 78], [109, 1730], [109, 1723, 77], [109, 1707, 73], [109, 1715, 75], [109, 1703, 72], [109, 1711, 74], [109, 1699, 71], [109, 1719, 76], [109, 1768, 83], [109, 1764, 82], [109, 1776, 85], [109, 1772, 84], [109, 1748, 1749], [109, 1752, 1753], [109, 1756, 1757], [109, 1784, 86], [109, 1792, 87], [109, 1779, 1780], [109, 1796, 88], [109, 1787, 1788], [109, 1799, 1800], [109, 1803, 1804], [109, 1807, 1808], [109, 1811, 1812], [109, 1819], [109, 1815, 1816], [109, 1822, 1823], [109, 1826, 1827], [109, 1830, 1831], [109, 1835, 89], [109, 1843, 90], [109, 1846], [109, 1838, 1839], [109, 1850, 1851], [109, 1859, 91], [109, 1854, 1855], [109, 1862, 1863], [109, 1875, 93], [109, 1871, 92], [109, 1866, 1867], [109, 1878, 1879], [109, 1882, 1883], [109, 1891], [109, 1887, 1888], [109, 1899, 94], [109, 1894, 1895], [109, 1902, 1903], [109, 1906, 1907], [109, 1910, 1911], [109, 1914, 1915], [109, 1918, 1919], [109, 1922, 1923], [109, 1926, 1927], [109, 1930, 1931], [109, 1934, 1935], [109, 1938, 1939], [109, 1942, 1943], [109, 1946, 1947], [109, 1962, 96], [109, 1958, 95], [109, 1954], [109, 1950, 1951], [109, 1966, 1967], [109, 1979, 98], [109, 1975, 97], [109, 1970, 1971], [109, 1982, 1983], [109, 1986, 1987], [109, 1990, 1991], [99, 550], [99, 772], [99, 836], [99, 972], [99, 996], [99, 1020], [99, 1054], [99, 1073], [99, 1081], [99, 1092], [99, 1103], [99, 1114], [99, 1124], [99, 1132], [99, 1139], [99, 1151], [99, 1174], [99, 1182], [99, 1197], [99, 1204], [99, 1211], [99, 1224], [99, 1236], [99, 1246], [99, 1254], [99, 1261], [99, 1268], [99, 1275], [99, 1282], [99, 1289], [99, 1298], [99, 1305], [99, 1312], [99, 1319], [99, 1351], [99], [121, 463], [108, 285]]
def mOkW (M : Nat) : Bool := Nat.beq (mK M) 4 || ((mPw.getD M []).map (fun i => lw_tbl[i]?) == (mW M).map some) && (mW M).all goodWord
set_option maxRecDepth 100000 in
theorem mOkW_0 : ((List.range 16).map (0 + ·)).all (fun M => Nat.ble 312 M || mOkW M) = true := by decide +kernel
set_option maxRecDepth 100000 in
theorem mOkW_1 : ((List.range 16).map (16 + ·)).all (fun M => Nat.ble 312 M || mOkW M) = true := by decide +kernel
set_option maxRecDepth 100000 in
theorem mOkW_2 : ((List.range 16).map (32 + ·)).all (fun M => Nat.ble 312 M || mOkW M) = true := by decide +kernel
set_option maxRecDepth 100000 in
theorem mOkW_3 : ((List.range 16).map (48 + ·)).all (fun M => Nat.ble 312 M || mOkW M) = true := by decide +kernel
set_option maxRecDepth 100000 in
theorem mOkW_4 : ((List.range 16).map (64 + ·)).all (fun M => Nat.ble 312 M || mOkW M) = true := by decide +kernel
set_option maxRecDepth 100000 in
theorem mOkW_5 : ((List.range 16).map (80 + ·)).all (fun M => Nat.ble 312 M || mOkW M) = true := by decide +kernel
set_option maxRecDepth 100000 in
theorem mOkW_6 : ((List.range 16).map (96 + ·)).all (fun M => Nat.ble 312 M || mOkW M) = true := by decide +kernel
set_option maxRecDepth 100000 in
theorem mOkW_7 : ((List.range 16).map (112 + ·)).all (fun M => Nat.ble 312 M || mOkW M) = true := by decide +kernel
set_option maxRecDepth 100000 in
theorem mOkW_8 : ((List.range 16).map (128 + ·)).all (fun M => Nat.ble 312 M || mOkW M) = true := by decide +kernel
set_option maxRecDepth 100000 in
theorem mOkW_9 : ((List.range 16).map (144 + ·)).all (fun M => Nat.ble 312 M || mOkW M) = true := by decide +kernel
set_option maxRecDepth 100000 in
theorem mOkW_10 : ((List.range 16).map (160 + ·)).all (fun M => Nat.ble 312 M || mOkW M) = true := by decide +kernel
set_option maxRecDepth 100000 in
theorem mOkW_11 : ((List.range 16).map (176 + ·)).all (fun M => Nat.ble 312 M || mOkW M) = true := by decide +kernel
set_option maxRecDepth 100000 in
theorem mOkW_12 : ((List.range 16).map (192 + ·)).all (fun M => Nat.ble 312 M || mOkW M) = true := by decide +kernel
set_option maxRecDepth 100000 in
theorem mOkW_13 : ((List.range 16).map (208 + ·)).all (fun M => Nat.ble 312 M || mOkW M) = true := by decide +kernel
set_option maxRecDepth 100000 in
theorem mOkW_14 : ((List.range 16).map (224 + ·)).all (fun M => Nat.ble 312 M || mOkW M) = true := by decide +kernel
set_option maxRecDepth 100000 in
theorem mOkW_15 : ((List.range 16).map (240 + ·)).all (fun M => Nat.ble 312 M || mOkW M) = true := by decide +kernel
set_option maxRecDepth 100000 in
theorem mOkW_16 : ((List.range 16).map (256 + ·)).all (fun M => Nat.ble 312 M || mOkW M) = true := by decide +kernel
set_option maxRecDepth 100000 in
theorem mOkW_17 : ((List.range 16).map (272 + ·)).all (fun M => Nat.ble 312 M || mOkW M) = true := by decide +kernel
set_option maxRecDepth 100000 in
theorem mOkW_18 : ((List.range 16).map (288 + ·)).all (fun M => Nat.ble 312 M || mOkW M) = true := by decide +kernel
set_option maxRecDepth 100000 in
theorem mOkW_19 : ((List.range 16).map (304 + ·)).all (fun M => Nat.ble 312 M || mOkW M) = true := by decide +kernel
set_option maxRecDepth 100000 in
theorem mC_0 : mC 0 ∈ wT := wT_in 262 rfl (by decide +kernel)
set_option maxRecDepth 100000 in
theorem mC_1 : mC 1 ∈ wT := wT_in 991 rfl (by decide +kernel)
set_option maxRecDepth 100000 in
theorem mC_2 : mC 2 ∈ wT := wT_in 1164 rfl (by decide +kernel)
set_option maxRecDepth 100000 in
theorem mC_3 : mC 3 ∈ wT := wT_in 981 rfl (by decide +kernel)
set_option maxRecDepth 100000 in
theorem mC_4 : mC 4 ∈ wT := wT_in 986 rfl (by decide +kernel)
set_option maxRecDepth 100000 in
theorem mC_5 : mC 5 ∈ wT := wT_in 243 rfl (by decide +kernel)
set_option maxRecDepth 100000 in
theorem mC_6 : mC 6 ∈ wT := wT_in 436 rfl (by decide +kernel)
set_option maxRecDepth 100000 in
theorem mC_7 : mC 7 ∈ wT := wT_in 440 rfl (by decide +kernel)
set_option maxRecDepth 100000 in
theorem mC_8 : mC 8 ∈ wT := wT_in 444 rfl (by decide +kernel)
set_option maxRecDepth 100000 in
theorem mC_9 : mC 9 ∈ wT := wT_in 448 rfl (by decide +kernel)
set_option maxRecDepth 100000 in
theorem mC_10 : mC 10 ∈ wT := wT_in 452 rfl (by decide +kernel)
set_option maxRecDepth 100000 in
theorem mC_11 : mC 11 ∈ wT := wT_in 455 rfl (by decide +kernel)
set_option maxRecDepth 100000 in
theorem mC_12 : mC 12 ∈ wT := wT_in 781 rfl (by decide +kernel)
set_option maxRecDepth 100000 in
theorem mC_13 : mC 13 ∈ wT := wT_in 785 rfl (by decide +kernel)
set_option maxRecDepth 100000 in
theorem mC_14 : mC 14 ∈ wT := wT_in 789 rfl (by decide +kernel)
set_option maxRecDepth 100000 in
theorem mC_15 : mC 15 ∈ wT := wT_in 793 rfl (by decide +kernel)
set_option maxRecDepth 100000 in
theorem mC_16 : mC 16 ∈ wT := wT_in 804 rfl (by decide +kernel)
set_option maxRecDepth 100000 in
theorem mC_17 : mC 17 ∈ wT := wT_in 821 rfl (by decide +kernel)
set_option maxRecDepth 100000 in
theorem mC_18 : mC 18 ∈ wT := wT_in 825 rfl (by decide +kernel)
set_option maxRecDepth 100000 in
theorem mC_19 : mC 19 ∈ wT := wT_in 800 rfl (by decide +kernel)
set_option maxRecDepth 100000 in
theorem mC_20 : mC 20 ∈ wT := wT_in 402 rfl (by decide +kernel)
set_option maxRecDepth 100000 in
theorem mC_21 : mC 21 ∈ wT := wT_in 492 rfl (by decide +kernel)
set_option maxRecDepth 100000 in
theorem mC_22 : mC 22 ∈ wT := wT_in 525 rfl (by decide +kernel)
set_option maxRecDepth 100000 in
theorem mC_23 : mC 23 ∈ wT := wT_in 515 rfl (by decide +kernel)
set_option maxRecDepth 100000 in
theorem mC_24 : mC 24 ∈ wT := wT_in 519 rfl (by decide +kernel)
set_option maxRecDepth 100000 in
theorem mC_25 : mC 25 ∈ wT := wT_in 168 rfl (by decide +kernel)
set_option maxRecDepth 100000 in
theorem mC_26 : mC 26 ∈ wT := wT_in 428 rfl (by decide +kernel)
set_option maxRecDepth 100000 in
theorem mC_27 : mC 27 ∈ wT := wT_in 471 rfl (by decide +kernel)
set_option maxRecDepth 100000 in
theorem mC_28 : mC 28 ∈ wT := wT_in 478 rfl (by decide +kernel)
set_option maxRecDepth 100000 in
theorem mC_29 : mC 29 ∈ wT := wT_in 483 rfl (by decide +kernel)
set_option maxRecDepth 100000 in
theorem mC_30 : mC 30 ∈ wT := wT_in 1191 rfl (by decide +kernel)
set_option maxRecDepth 100000 in
theorem mC_31 : mC 31 ∈ wT := wT_in 1195 rfl (by decide +kernel)
set_option maxRecDepth 100000 in
theorem mC_32 : mC 32 ∈ wT := wT_in 279 rfl (by decide +kernel)
set_option maxRecDepth 100000 in
theorem mC_33 : mC 33 ∈ wT := wT_in 390 rfl (by decide +kernel)
set_option maxRecDepth 100000 in
theorem mC_34 : mC 34 ∈ wT := wT_in 935 rfl (by decide +kernel)
set_option maxRecDepth 100000 in
theorem mC_35 : mC 35 ∈ wT := wT_in 943 rfl (by decide +kernel)
set_option maxRecDepth 100000 in
theorem mC_36 : mC 36 ∈ wT := wT_in 951 rfl (by decide +kernel)
set_option maxRecDepth 100000 in
theorem mC_37 : mC 37 ∈ wT := wT_in 955 rfl (by decide +kernel)
set_option maxRecDepth 100000 in
theorem mC_38 : mC 38 ∈ wT := wT_in 959 rfl (by decide +kernel)
set_option maxRecDepth 100000 in
theorem mC_39 : mC 39 ∈ wT := wT_in 968 rfl (by decide +kernel)
set_option maxRecDepth 100000 in
theorem mC_40 : mC 40 ∈ wT := wT_in 1101 rfl (by decide +kernel)
set_option maxRecDepth 100000 in
theorem mC_41 : mC 41 ∈ wT := wT_in 432 rfl (by decide +kernel)
set_option maxRecDepth 100000 in
theorem mC_42 : mC 42 ∈ wT := wT_in 947 rfl (by decide +kernel)
set_option maxRecDepth 100000 in
theorem mC_43 : mC 43 ∈ wT := wT_in 963 rfl (by decide +kernel)
set_option maxRecDepth 100000 in
theorem mC_44 : mC 44 ∈ wT := wT_in 939 rfl (by decide +kernel)
set_option maxRecDepth 100000 in
theorem mC_45 : mC 45 ∈ wT := wT_in 540 rfl (by decide +kernel)
set_option maxRecDepth 100000 in
theorem mC_46 : mC 46 ∈ wT := wT_in 537 rfl (by decide +kernel)
set_option maxRecDepth 100000 in
theorem mC_47 : mC 47 ∈ wT := wT_in 1010 rfl (by decide +kernel)
set_option maxRecDepth 100000 in
theorem mC_48 : mC 48 ∈ wT := wT_in 1006 rfl (by decide +kernel)
set_option maxRecDepth 100000 in
theorem mC_49 : mC 49 ∈ wT := wT_in 1071 rfl (by decide +kernel)
set_option maxRecDepth 100000 in
theorem mC_50 : mC 50 ∈ wT := wT_in 533 rfl (by decide +kernel)
set_option maxRecDepth 100000 in
theorem mC_51 : mC 51 ∈ wT := wT_in 1018 rfl (by decide +kernel)
set_option maxRecDepth 100000 in
theorem mC_52 : mC 52 ∈ wT := wT_in 1067 rfl (by decide +kernel)
set_option maxRecDepth 100000 in
theorem mC_53 : mC 53 ∈ wT := wT_in 1014 rfl (by decide +kernel)
set_option maxRecDepth 100000 in
theorem mC_54 : mC 54 ∈ wT := wT_in 1333 rfl (by decide +kernel)
set_option maxRecDepth 100000 in
theorem mC_55 : mC 55 ∈ wT := wT_in 1346 rfl (by decide +kernel)
set_option maxRecDepth 100000 in
theorem mC_56 : mC 56 ∈ wT := wT_in 189 rfl (by decide +kernel)
set_option maxRecDepth 100000 in
theorem mC_57 : mC 57 ∈ wT := wT_in 639 rfl (by decide +kernel)
set_option maxRecDepth 100000 in
theorem mC_58 : mC 58 ∈ wT := wT_in 663 rfl (by decide +kernel)
set_option maxRecDepth 100000 in
theorem mC_59 : mC 59 ∈ wT := wT_in 719 rfl (by decide +kernel)
set_option maxRecDepth 100000 in
theorem mC_60 : mC 60 ∈ wT := wT_in 727 rfl (by decide +kernel)
set_option maxRecDepth 100000 in
theorem mC_61 : mC 61 ∈ wT := wT_in 742 rfl (by decide +kernel)
set_option maxRecDepth 100000 in
theorem mC_62 : mC 62 ∈ wT := wT_in 747 rfl (by decide +kernel)
set_option maxRecDepth 100000 in
theorem mC_63 : mC 63 ∈ wT := wT_in 752 rfl (by decide +kernel)
set_option maxRecDepth 100000 in
theorem mC_64 : mC 64 ∈ wT := wT_in 757 rfl (by decide +kernel)
set_option maxRecDepth 100000 in
theorem mC_65 : mC 65 ∈ wT := wT_in 137 rfl (by decide +kernel)
set_option maxRecDepth 100000 in
theorem mC_66 : mC 66 ∈ wT := wT_in 370 rfl (by decide +kernel)
set_option maxRecDepth 100000 in
theorem mC_67 : mC 67 ∈ wT := wT_in 374 rfl (by decide +kernel)
set_option maxRecDepth 100000 in
theorem mC_68 : mC 68 ∈ wT := wT_in 635 rfl (by decide +kernel)
set_option maxRecDepth 100000 in
theorem mC_69 : mC 69 ∈ wT := wT_in 765 rfl (by decide +kernel)
set_option maxRecDepth 100000 in
theorem mC_70 : mC 70 ∈ wT := wT_in 643 rfl (by decide +kernel)
set_option maxRecDepth 100000 in
theorem mC_71 : mC 71 ∈ wT := wT_in 813 rfl (by decide +kernel)
set_option maxRecDepth 100000 in
theorem mC_72 : mC 72 ∈ wT := wT_in 761 rfl (by decide +kernel)
set_option maxRecDepth 100000 in
theorem mC_73 : mC 73 ∈ wT := wT_in 651 rfl (by decide +kernel)
set_option maxRecDepth 100000 in
theorem mC_74 : mC 74 ∈ wT := wT_in 668 rfl (by decide +kernel)
set_option maxRecDepth 100000 in
theorem mC_75 : mC 75 ∈ wT := wT_in 731 rfl (by decide +kernel)
set_option maxRecDepth 100000 in
theorem mC_76 : mC 76 ∈ wT := wT_in 659 rfl (by decide +kernel)
set_option maxRecDepth 100000 in
theorem mC_77 : mC 77 ∈ wT := wT_in 723 rfl (by decide +kernel)
set_option maxRecDepth 100000 in
theorem mC_78 : mC 78 ∈ wT := wT_in 808 rfl (by decide +kernel)
set_option maxRecDepth 100000 in
theorem mC_79 : mC 79 ∈ wT := wT_in 647 rfl (by decide +kernel)
set_option maxRecDepth 100000 in
theorem mC_80 : mC 80 ∈ wT := wT_in 655 rfl (by decide +kernel)
set_option maxRecDepth 100000 in
theorem mC_81 : mC 81 ∈ wT := wT_in 734 rfl (by decide +kernel)
set_option maxRecDepth 100000 in
theorem mC_82 : mC 82 ∈ wT := wT_in 846 rfl (by decide +kernel)
set_option maxRecDepth 100000 in
theorem mC_83 : mC 83 ∈ wT := wT_in 881 rfl (by decide +kernel)
set_option maxRecDepth 100000 in
theorem mC_84 : mC 84 ∈ wT := wT_in 897 rfl (by decide +kernel)
set_option maxRecDepth 100000 in
theorem mC_85 : mC 85 ∈ wT := wT_in 903 rfl (by decide +kernel)
set_option maxRecDepth 100000 in
theorem mC_86 : mC 86 ∈ wT := wT_in 913 rfl (by decide +kernel)
set_option maxRecDepth 100000 in
theorem mC_87 : mC 87 ∈ wT := wT_in 886 rfl (by decide +kernel)
set_option maxRecDepth 100000 in
theorem mC_88 : mC 88 ∈ wT := wT_in 891 rfl (by decide +kernel)
set_option maxRecDepth 100000 in
theorem mC_89 : mC 89 ∈ wT := wT_in 918 rfl (by decide +kernel)
set_option maxRecDepth 100000 in
theorem mC_90 : mC 90 ∈ wT := wT_in 927 rfl (by decide +kernel)
set_option maxRecDepth 100000 in
theorem mC_91 : mC 91 ∈ wT := wT_in 923 rfl (by decide +kernel)
set_option maxRecDepth 100000 in
theorem mC_92 : mC 92 ∈ wT := wT_in 931 rfl (by decide +kernel)
set_option maxRecDepth 100000 in
theorem mC_93 : mC 93 ∈ wT := wT_in 129 rfl (by decide +kernel)
set_option maxRecDepth 100000 in
theorem mC_94 : mC 94 ∈ wT := wT_in 366 rfl (by decide +kernel)
set_option maxRecDepth 100000 in
theorem mC_95 : mC 95 ∈ wT := wT_in 556 rfl (by decide +kernel)
set_option maxRecDepth 100000 in
theorem mC_96 : mC 96 ∈ wT := wT_in 777 rfl (by decide +kernel)
set_option maxRecDepth 100000 in
theorem mC_97 : mC 97 ∈ wT := wT_in 841 rfl (by decide +kernel)
set_option maxRecDepth 100000 in
theorem mC_98 : mC 98 ∈ wT := wT_in 977 rfl (by decide +kernel)
set_option maxRecDepth 100000 in
theorem mC_99 : mC 99 ∈ wT := wT_in 378 rfl (by decide +kernel)
set_option maxRecDepth 100000 in
theorem mC_100 : mC 100 ∈ wT := wT_in 382 rfl (by decide +kernel)
set_option maxRecDepth 100000 in
theorem mC_101 : mC 101 ∈ wT := wT_in 394 rfl (by decide +kernel)
set_option maxRecDepth 100000 in
theorem mC_102 : mC 102 ∈ wT := wT_in 420 rfl (by decide +kernel)
set_option maxRecDepth 100000 in
theorem mC_103 : mC 103 ∈ wT := wT_in 1001 rfl (by decide +kernel)
set_option maxRecDepth 100000 in
theorem mC_104 : mC 104 ∈ wT := wT_in 1026 rfl (by decide +kernel)
set_option maxRecDepth 100000 in
theorem mC_105 : mC 105 ∈ wT := wT_in 1059 rfl (by decide +kernel)
set_option maxRecDepth 100000 in
theorem mC_106 : mC 106 ∈ wT := wT_in 1078 rfl (by decide +kernel)
set_option maxRecDepth 100000 in
theorem mC_107 : mC 107 ∈ wT := wT_in 1086 rfl (by decide +kernel)
set_option maxRecDepth 100000 in
theorem mC_108 : mC 108 ∈ wT := wT_in 1097 rfl (by decide +kernel)
set_option maxRecDepth 100000 in
theorem mC_109 : mC 109 ∈ wT := wT_in 1108 rfl (by decide +kernel)
set_option maxRecDepth 100000 in
theorem mC_110 : mC 110 ∈ wT := wT_in 1119 rfl (by decide +kernel)
set_option maxRecDepth 100000 in
theorem mC_111 : mC 111 ∈ wT := wT_in 1129 rfl (by decide +kernel)
set_option maxRecDepth 100000 in
theorem mC_112 : mC 112 ∈ wT := wT_in 1137 rfl (by decide +kernel)
set_option maxRecDepth 100000 in
theorem mC_113 : mC 113 ∈ wT := wT_in 1144 rfl (by decide +kernel)
set_option maxRecDepth 100000 in
theorem mC_114 : mC 114 ∈ wT := wT_in 1310 rfl (by decide +kernel)
set_option maxRecDepth 100000 in
theorem mC_115 : mC 115 ∈ wT := wT_in 1287 rfl (by decide +kernel)
set_option maxRecDepth 100000 in
theorem mC_116 : mC 116 ∈ wT := wT_in 1294 rfl (by decide +kernel)
set_option maxRecDepth 100000 in
theorem mC_117 : mC 117 ∈ wT := wT_in 1156 rfl (by decide +kernel)
set_option maxRecDepth 100000 in
theorem mC_118 : mC 118 ∈ wT := wT_in 1179 rfl (by decide +kernel)
set_option maxRecDepth 100000 in
theorem mC_119 : mC 119 ∈ wT := wT_in 424 rfl (by decide +kernel)
set_option maxRecDepth 100000 in
theorem mC_120 : mC 120 ∈ wT := wT_in 1187 rfl (by decide +kernel)
set_option maxRecDepth 100000 in
theorem mC_121 : mC 121 ∈ wT := wT_in 487 rfl (by decide +kernel)
set_option maxRecDepth 100000 in
theorem mC_122 : mC 122 ∈ wT := wT_in 1202 rfl (by decide +kernel)
set_option maxRecDepth 100000 in
theorem mC_123 : mC 123 ∈ wT := wT_in 1209 rfl (by decide +kernel)
set_option maxRecDepth 100000 in
theorem mC_124 : mC 124 ∈ wT := wT_in 1216 rfl (by decide +kernel)
set_option maxRecDepth 100000 in
theorem mC_125 : mC 125 ∈ wT := wT_in 1229 rfl (by decide +kernel)
set_option maxRecDepth 100000 in
theorem mC_126 : mC 126 ∈ wT := wT_in 1241 rfl (by decide +kernel)
set_option maxRecDepth 100000 in
theorem mC_127 : mC 127 ∈ wT := wT_in 1251 rfl (by decide +kernel)
set_option maxRecDepth 100000 in
theorem mC_128 : mC 128 ∈ wT := wT_in 1259 rfl (by decide +kernel)
set_option maxRecDepth 100000 in
theorem mC_129 : mC 129 ∈ wT := wT_in 1266 rfl (by decide +kernel)
set_option maxRecDepth 100000 in
theorem mC_130 : mC 130 ∈ wT := wT_in 1273 rfl (by decide +kernel)
set_option maxRecDepth 100000 in
theorem mC_131 : mC 131 ∈ wT := wT_in 1280 rfl (by decide +kernel)
set_option maxRecDepth 100000 in
theorem mC_132 : mC 132 ∈ wT := wT_in 529 rfl (by decide +kernel)
set_option maxRecDepth 100000 in
theorem mC_133 : mC 133 ∈ wT := wT_in 1303 rfl (by decide +kernel)
set_option maxRecDepth 100000 in
theorem mC_134 : mC 134 ∈ wT := wT_in 1317 rfl (by decide +kernel)
set_option maxRecDepth 100000 in
theorem mC_135 : mC 135 ∈ wT := wT_in 1324 rfl (by decide +kernel)
set_option maxRecDepth 100000 in
theorem mC_136 : mC 136 ∈ wT := wT_in 1356 rfl (by decide +kernel)
set_option maxRecDepth 100000 in
theorem mC_137 : mC 137 ∈ wT := wT_in 544 rfl (by decide +kernel)
set_option maxRecDepth 100000 in
theorem mC_138 : mC 138 ∈ wT := wT_in 548 rfl (by decide +kernel)
set_option maxRecDepth 100000 in
theorem mC_139 : mC 139 ∈ wT := wT_in 569 rfl (by decide +kernel)
set_option maxRecDepth 100000 in
theorem mC_140 : mC 140 ∈ wT := wT_in 1034 rfl (by decide +kernel)
set_option maxRecDepth 100000 in
theorem mC_141 : mC 141 ∈ wT := wT_in 565 rfl (by decide +kernel)
set_option maxRecDepth 100000 in
theorem mC_142 : mC 142 ∈ wT := wT_in 1030 rfl (by decide +kernel)
set_option maxRecDepth 100000 in
theorem mC_143 : mC 143 ∈ wT := wT_in 1063 rfl (by decide +kernel)
set_option maxRecDepth 100000 in
theorem mC_144 : mC 144 ∈ wT := wT_in 1090 rfl (by decide +kernel)
set_option maxRecDepth 100000 in
theorem mC_145 : mC 145 ∈ wT := wT_in 560 rfl (by decide +kernel)
set_option maxRecDepth 100000 in
theorem mC_146 : mC 146 ∈ wT := wT_in 769 rfl (by decide +kernel)
set_option maxRecDepth 100000 in
theorem mC_147 : mC 147 ∈ wT := wT_in 398 rfl (by decide +kernel)
set_option maxRecDepth 100000 in
theorem mC_148 : mC 148 ∈ wT := wT_in 386 rfl (by decide +kernel)
set_option maxRecDepth 100000 in
theorem mC_149 : mC 149 ∈ wT := wT_in 1148 rfl (by decide +kernel)
set_option maxRecDepth 100000 in
theorem mC_150 : mC 150 ∈ wT := wT_in 1160 rfl (by decide +kernel)
set_option maxRecDepth 100000 in
theorem mC_151 : mC 151 ∈ wT := wT_in 1169 rfl (by decide +kernel)
set_option maxRecDepth 100000 in
theorem mC_152 : mC 152 ∈ wT := wT_in 1234 rfl (by decide +kernel)
set_option maxRecDepth 100000 in
theorem mC_153 : mC 153 ∈ wT := wT_in 1222 rfl (by decide +kernel)
set_option maxRecDepth 100000 in
theorem mC_154 : mC 154 ∈ wT := wT_in 1219 rfl (by decide +kernel)
set_option maxRecDepth 100000 in
theorem mC_155 : mC 155 ∈ wT := wT_in 1328 rfl (by decide +kernel)
set_option maxRecDepth 100000 in
theorem mC_156 : mC 156 ∈ wT := wT_in 1342 rfl (by decide +kernel)
set_option maxRecDepth 100000 in
theorem mC_157 : mC 157 ∈ wT := wT_in 1244 rfl (by decide +kernel)
set_option maxRecDepth 100000 in
theorem mC_158 : mC 158 ∈ wT := wT_in 474 rfl (by decide +kernel)
set_option maxRecDepth 100000 in
theorem mC_159 : mC 159 ∈ wT := wT_in 1122 rfl (by decide +kernel)
set_option maxRecDepth 100000 in
theorem mC_160 : mC 160 ∈ wT := wT_in 1360 rfl (by decide +kernel)
set_option maxRecDepth 100000 in
theorem mC_161 : mC 161 ∈ wT := wT_in 1560 rfl (by decide +kernel)
set_option maxRecDepth 100000 in
theorem mC_162 : mC 162 ∈ wT := wT_in 1761 rfl (by decide +kernel)
set_option maxRecDepth 100000 in
theorem mC_163 : mC 163 ∈ wT := wT_in 1365 rfl (by decide +kernel)
set_option maxRecDepth 100000 in
theorem mC_164 : mC 164 ∈ wT := wT_in 1548 rfl (by decide +kernel)
set_option maxRecDepth 100000 in
theorem mC_165 : mC 165 ∈ wT := wT_in 1568 rfl (by decide +kernel)
set_option maxRecDepth 100000 in
theorem mC_166 : mC 166 ∈ wT := wT_in 1604 rfl (by decide +kernel)
set_option maxRecDepth 100000 in
theorem mC_167 : mC 167 ∈ wT := wT_in 1576 rfl (by decide +kernel)
set_option maxRecDepth 100000 in
theorem mC_168 : mC 168 ∈ wT := wT_in 1586 rfl (by decide +kernel)
set_option maxRecDepth 100000 in
theorem mC_169 : mC 169 ∈ wT := wT_in 1623 rfl (by decide +kernel)
set_option maxRecDepth 100000 in
theorem mC_170 : mC 170 ∈ wT := wT_in 1590 rfl (by decide +kernel)
set_option maxRecDepth 100000 in
theorem mC_171 : mC 171 ∈ wT := wT_in 1597 rfl (by decide +kernel)
set_option maxRecDepth 100000 in
theorem mC_172 : mC 172 ∈ wT := wT_in 1612 rfl (by decide +kernel)
set_option maxRecDepth 100000 in
theorem mC_173 : mC 173 ∈ wT := wT_in 1620 rfl (by decide +kernel)
set_option maxRecDepth 100000 in
theorem mC_174 : mC 174 ∈ wT := wT_in 1627 rfl (by decide +kernel)
set_option maxRecDepth 100000 in
theorem mC_175 : mC 175 ∈ wT := wT_in 1572 rfl (by decide +kernel)
set_option maxRecDepth 100000 in
theorem mC_176 : mC 176 ∈ wT := wT_in 1564 rfl (by decide +kernel)
set_option maxRecDepth 100000 in
theorem mC_177 : mC 177 ∈ wT := wT_in 1631 rfl (by decide +kernel)
set_option maxRecDepth 100000 in
theorem mC_178 : mC 178 ∈ wT := wT_in 1552 rfl (by decide +kernel)
set_option maxRecDepth 100000 in
theorem mC_179 : mC 179 ∈ wT := wT_in 1378 rfl (by decide +kernel)
set_option maxRecDepth 100000 in
theorem mC_180 : mC 180 ∈ wT := wT_in 1370 rfl (by decide +kernel)
set_option maxRecDepth 100000 in
theorem mC_181 : mC 181 ∈ wT := wT_in 1374 rfl (by decide +kernel)
set_option maxRecDepth 100000 in
theorem mC_182 : mC 182 ∈ wT := wT_in 1593 rfl (by decide +kernel)
set_option maxRecDepth 100000 in
theorem mC_183 : mC 183 ∈ wT := wT_in 1608 rfl (by decide +kernel)
set_option maxRecDepth 100000 in
theorem mC_184 : mC 184 ∈ wT := wT_in 1616 rfl (by decide +kernel)
set_option maxRecDepth 100000 in
theorem mC_185 : mC 185 ∈ wT := wT_in 1556 rfl (by decide +kernel)
set_option maxRecDepth 100000 in
theorem mC_186 : mC 186 ∈ wT := wT_in 1655 rfl (by decide +kernel)
set_option maxRecDepth 100000 in
theorem mC_187 : mC 187 ∈ wT := wT_in 1651 rfl (by decide +kernel)
set_option maxRecDepth 100000 in
theorem mC_188 : mC 188 ∈ wT := wT_in 1639 rfl (by decide +kernel)
set_option maxRecDepth 100000 in
theorem mC_189 : mC 189 ∈ wT := wT_in 1643 rfl (by decide +kernel)
set_option maxRecDepth 100000 in
theorem mC_190 : mC 190 ∈ wT := wT_in 1660 rfl (by decide +kernel)
set_option maxRecDepth 100000 in
theorem mC_191 : mC 191 ∈ wT := wT_in 1581 rfl (by decide +kernel)
set_option maxRecDepth 100000 in
theorem mC_192 : mC 192 ∈ wT := wT_in 1665 rfl (by decide +kernel)
set_option maxRecDepth 100000 in
theorem mC_193 : mC 193 ∈ wT := wT_in 1647 rfl (by decide +kernel)
set_option maxRecDepth 100000 in
theorem mC_194 : mC 194 ∈ wT := wT_in 1635 rfl (by decide +kernel)
set_option maxRecDepth 100000 in
theorem mC_195 : mC 195 ∈ wT := wT_in 1743 rfl (by decide +kernel)
set_option maxRecDepth 100000 in
theorem mC_196 : mC 196 ∈ wT := wT_in 1746 rfl (by decide +kernel)
set_option maxRecDepth 100000 in
theorem mC_197 : mC 197 ∈ wT := wT_in 1739 rfl (by decide +kernel)
set_option maxRecDepth 100000 in
theorem mC_198 : mC 198 ∈ wT := wT_in 1684 rfl (by decide +kernel)
set_option maxRecDepth 100000 in
theorem mC_199 : mC 199 ∈ wT := wT_in 1679 rfl (by decide +kernel)
set_option maxRecDepth 100000 in
theorem mC_200 : mC 200 ∈ wT := wT_in 1675 rfl (by decide +kernel)
set_option maxRecDepth 100000 in
theorem mC_201 : mC 201 ∈ wT := wT_in 1696 rfl (by decide +kernel)
set_option maxRecDepth 100000 in
theorem mC_202 : mC 202 ∈ wT := wT_in 1692 rfl (by decide +kernel)
set_option maxRecDepth 100000 in
theorem mC_203 : mC 203 ∈ wT := wT_in 1735 rfl (by decide +kernel)
set_option maxRecDepth 100000 in
theorem mC_204 : mC 204 ∈ wT := wT_in 1728 rfl (by decide +kernel)
set_option maxRecDepth 100000 in
theorem mC_205 : mC 205 ∈ wT := wT_in 1731 rfl (by decide +kernel)
set_option maxRecDepth 100000 in
theorem mC_206 : mC 206 ∈ wT := wT_in 1724 rfl (by decide +kernel)
set_option maxRecDepth 100000 in
theorem mC_207 : mC 207 ∈ wT := wT_in 1708 rfl (by decide +kernel)
set_option maxRecDepth 100000 in
theorem mC_208 : mC 208 ∈ wT := wT_in 1716 rfl (by decide +kernel)
set_option maxRecDepth 100000 in
theorem mC_209 : mC 209 ∈ wT := wT_in 1704 rfl (by decide +kernel)
set_option maxRecDepth 100000 in
theorem mC_210 : mC 210 ∈ wT := wT_in 1712 rfl (by decide +kernel)
set_option maxRecDepth 100000 in
theorem mC_211 : mC 211 ∈ wT := wT_in 1700 rfl (by decide +kernel)
set_option maxRecDepth 100000 in
theorem mC_212 : mC 212 ∈ wT := wT_in 1720 rfl (by decide +kernel)
set_option maxRecDepth 100000 in
theorem mC_213 : mC 213 ∈ wT := wT_in 1769 rfl (by decide +kernel)
set_option maxRecDepth 100000 in
theorem mC_214 : mC 214 ∈ wT := wT_in 1765 rfl (by decide +kernel)
set_option maxRecDepth 100000 in
theorem mC_215 : mC 215 ∈ wT := wT_in 1777 rfl (by decide +kernel)
set_option maxRecDepth 100000 in
theorem mC_216 : mC 216 ∈ wT := wT_in 1773 rfl (by decide +kernel)
set_option maxRecDepth 100000 in
theorem mC_217 : mC 217 ∈ wT := wT_in 1750 rfl (by decide +kernel)
set_option maxRecDepth 100000 in
theorem mC_218 : mC 218 ∈ wT := wT_in 1754 rfl (by decide +kernel)
set_option maxRecDepth 100000 in
theorem mC_219 : mC 219 ∈ wT := wT_in 1758 rfl (by decide +kernel)
set_option maxRecDepth 100000 in
theorem mC_220 : mC 220 ∈ wT := wT_in 1785 rfl (by decide +kernel)
set_option maxRecDepth 100000 in
theorem mC_221 : mC 221 ∈ wT := wT_in 1793 rfl (by decide +kernel)
set_option maxRecDepth 100000 in
theorem mC_222 : mC 222 ∈ wT := wT_in 1781 rfl (by decide +kernel)
set_option maxRecDepth 100000 in
theorem mC_223 : mC 223 ∈ wT := wT_in 1797 rfl (by decide +kernel)
set_option maxRecDepth 100000 in
theorem mC_224 : mC 224 ∈ wT := wT_in 1789 rfl (by decide +kernel)
set_option maxRecDepth 100000 in
theorem mC_225 : mC 225 ∈ wT := wT_in 1801 rfl (by decide +kernel)
set_option maxRecDepth 100000 in
theorem mC_226 : mC 226 ∈ wT := wT_in 1805 rfl (by decide +kernel)
set_option maxRecDepth 100000 in
theorem mC_227 : mC 227 ∈ wT := wT_in 1809 rfl (by decide +kernel)
set_option maxRecDepth 100000 in
theorem mC_228 : mC 228 ∈ wT := wT_in 1813 rfl (by decide +kernel)
set_option maxRecDepth 100000 in
theorem mC_229 : mC 229 ∈ wT := wT_in 1820 rfl (by decide +kernel)
set_option maxRecDepth 100000 in
theorem mC_230 : mC 230 ∈ wT := wT_in 1817 rfl (by decide +kernel)
set_option maxRecDepth 100000 in
theorem mC_231 : mC 231 ∈ wT := wT_in 1824 rfl (by decide +kernel)
set_option maxRecDepth 100000 in
theorem mC_232 : mC 232 ∈ wT := wT_in 1828 rfl (by decide +kernel)
set_option maxRecDepth 100000 in
theorem mC_233 : mC 233 ∈ wT := wT_in 1832 rfl (by decide +kernel)
set_option maxRecDepth 100000 in
theorem mC_234 : mC 234 ∈ wT := wT_in 1836 rfl (by decide +kernel)
set_option maxRecDepth 100000 in
theorem mC_235 : mC 235 ∈ wT := wT_in 1844 rfl (by decide +kernel)
set_option maxRecDepth 100000 in
theorem mC_236 : mC 236 ∈ wT := wT_in 1847 rfl (by decide +kernel)
set_option maxRecDepth 100000 in
theorem mC_237 : mC 237 ∈ wT := wT_in 1840 rfl (by decide +kernel)
set_option maxRecDepth 100000 in
theorem mC_238 : mC 238 ∈ wT := wT_in 1852 rfl (by decide +kernel)
set_option maxRecDepth 100000 in
theorem mC_239 : mC 239 ∈ wT := wT_in 1860 rfl (by decide +kernel)
set_option maxRecDepth 100000 in
theorem mC_240 : mC 240 ∈ wT := wT_in 1856 rfl (by decide +kernel)
set_option maxRecDepth 100000 in
theorem mC_241 : mC 241 ∈ wT := wT_in 1864 rfl (by decide +kernel)
set_option maxRecDepth 100000 in
theorem mC_242 : mC 242 ∈ wT := wT_in 1876 rfl (by decide +kernel)
set_option maxRecDepth 100000 in
theorem mC_243 : mC 243 ∈ wT := wT_in 1872 rfl (by decide +kernel)
set_option maxRecDepth 100000 in
theorem mC_244 : mC 244 ∈ wT := wT_in 1868 rfl (by decide +kernel)
set_option maxRecDepth 100000 in
theorem mC_245 : mC 245 ∈ wT := wT_in 1880 rfl (by decide +kernel)
set_option maxRecDepth 100000 in
theorem mC_246 : mC 246 ∈ wT := wT_in 1884 rfl (by decide +kernel)
set_option maxRecDepth 100000 in
theorem mC_247 : mC 247 ∈ wT := wT_in 1892 rfl (by decide +kernel)
set_option maxRecDepth 100000 in
theorem mC_248 : mC 248 ∈ wT := wT_in 1889 rfl (by decide +kernel)
set_option maxRecDepth 100000 in
theorem mC_249 : mC 249 ∈ wT := wT_in 1900 rfl (by decide +kernel)
set_option maxRecDepth 100000 in
theorem mC_250 : mC 250 ∈ wT := wT_in 1896 rfl (by decide +kernel)
set_option maxRecDepth 100000 in
theorem mC_251 : mC 251 ∈ wT := wT_in 1904 rfl (by decide +kernel)
set_option maxRecDepth 100000 in
theorem mC_252 : mC 252 ∈ wT := wT_in 1908 rfl (by decide +kernel)
set_option maxRecDepth 100000 in
theorem mC_253 : mC 253 ∈ wT := wT_in 1912 rfl (by decide +kernel)
set_option maxRecDepth 100000 in
theorem mC_254 : mC 254 ∈ wT := wT_in 1916 rfl (by decide +kernel)
set_option maxRecDepth 100000 in
theorem mC_255 : mC 255 ∈ wT := wT_in 1920 rfl (by decide +kernel)
set_option maxRecDepth 100000 in
theorem mC_256 : mC 256 ∈ wT := wT_in 1924 rfl (by decide +kernel)
set_option maxRecDepth 100000 in
theorem mC_257 : mC 257 ∈ wT := wT_in 1928 rfl (by decide +kernel)
set_option maxRecDepth 100000 in
theorem mC_258 : mC 258 ∈ wT := wT_in 1932 rfl (by decide +kernel)
set_option maxRecDepth 100000 in
theorem mC_259 : mC 259 ∈ wT := wT_in 1936 rfl (by decide +kernel)
set_option maxRecDepth 100000 in
theorem mC_260 : mC 260 ∈ wT := wT_in 1940 rfl (by decide +kernel)
set_option maxRecDepth 100000 in
theorem mC_261 : mC 261 ∈ wT := wT_in 1944 rfl (by decide +kernel)
set_option maxRecDepth 100000 in
theorem mC_262 : mC 262 ∈ wT := wT_in 1948 rfl (by decide +kernel)
set_option maxRecDepth 100000 in
theorem mC_263 : mC 263 ∈ wT := wT_in 1963 rfl (by decide +kernel)
set_option maxRecDepth 100000 in
theorem mC_264 : mC 264 ∈ wT := wT_in 1959 rfl (by decide +kernel)
set_option maxRecDepth 100000 in
theorem mC_265 : mC 265 ∈ wT := wT_in 1955 rfl (by decide +kernel)
set_option maxRecDepth 100000 in
theorem mC_266 : mC 266 ∈ wT := wT_in 1952 rfl (by decide +kernel)
set_option maxRecDepth 100000 in
theorem mC_267 : mC 267 ∈ wT := wT_in 1968 rfl (by decide +kernel)
set_option maxRecDepth 100000 in
theorem mC_268 : mC 268 ∈ wT := wT_in 1980 rfl (by decide +kernel)
set_option maxRecDepth 100000 in
theorem mC_269 : mC 269 ∈ wT := wT_in 1976 rfl (by decide +kernel)
set_option maxRecDepth 100000 in
theorem mC_270 : mC 270 ∈ wT := wT_in 1972 rfl (by decide +kernel)
set_option maxRecDepth 100000 in
theorem mC_271 : mC 271 ∈ wT := wT_in 1984 rfl (by decide +kernel)
set_option maxRecDepth 100000 in
theorem mC_272 : mC 272 ∈ wT := wT_in 1988 rfl (by decide +kernel)
set_option maxRecDepth 100000 in
theorem mC_273 : mC 273 ∈ wT := wT_in 1992 rfl (by decide +kernel)
set_option maxRecDepth 100000 in
theorem mC_274 : mC 274 ∈ wT := wT_in 551 rfl (by decide +kernel)
set_option maxRecDepth 100000 in
theorem mC_275 : mC 275 ∈ wT := wT_in 773 rfl (by decide +kernel)
set_option maxRecDepth 100000 in
theorem mC_276 : mC 276 ∈ wT := wT_in 837 rfl (by decide +kernel)
set_option maxRecDepth 100000 in
theorem mC_277 : mC 277 ∈ wT := wT_in 973 rfl (by decide +kernel)
set_option maxRecDepth 100000 in
theorem mC_278 : mC 278 ∈ wT := wT_in 997 rfl (by decide +kernel)
set_option maxRecDepth 100000 in
theorem mC_279 : mC 279 ∈ wT := wT_in 1021 rfl (by decide +kernel)
set_option maxRecDepth 100000 in
theorem mC_280 : mC 280 ∈ wT := wT_in 1055 rfl (by decide +kernel)
set_option maxRecDepth 100000 in
theorem mC_281 : mC 281 ∈ wT := wT_in 1074 rfl (by decide +kernel)
set_option maxRecDepth 100000 in
theorem mC_282 : mC 282 ∈ wT := wT_in 1082 rfl (by decide +kernel)
set_option maxRecDepth 100000 in
theorem mC_283 : mC 283 ∈ wT := wT_in 1093 rfl (by decide +kernel)
set_option maxRecDepth 100000 in
theorem mC_284 : mC 284 ∈ wT := wT_in 1104 rfl (by decide +kernel)
set_option maxRecDepth 100000 in
theorem mC_285 : mC 285 ∈ wT := wT_in 1115 rfl (by decide +kernel)
set_option maxRecDepth 100000 in
theorem mC_286 : mC 286 ∈ wT := wT_in 1125 rfl (by decide +kernel)
set_option maxRecDepth 100000 in
theorem mC_287 : mC 287 ∈ wT := wT_in 1133 rfl (by decide +kernel)
set_option maxRecDepth 100000 in
theorem mC_288 : mC 288 ∈ wT := wT_in 1140 rfl (by decide +kernel)
set_option maxRecDepth 100000 in
theorem mC_289 : mC 289 ∈ wT := wT_in 1152 rfl (by decide +kernel)
set_option maxRecDepth 100000 in
theorem mC_290 : mC 290 ∈ wT := wT_in 1175 rfl (by decide +kernel)
set_option maxRecDepth 100000 in
theorem mC_291 : mC 291 ∈ wT := wT_in 1183 rfl (by decide +kernel)
set_option maxRecDepth 100000 in
theorem mC_292 : mC 292 ∈ wT := wT_in 1198 rfl (by decide +kernel)
set_option maxRecDepth 100000 in
theorem mC_293 : mC 293 ∈ wT := wT_in 1205 rfl (by decide +kernel)
set_option maxRecDepth 100000 in
theorem mC_294 : mC 294 ∈ wT := wT_in 1212 rfl (by decide +kernel)
set_option maxRecDepth 100000 in
theorem mC_295 : mC 295 ∈ wT := wT_in 1225 rfl (by decide +kernel)
set_option maxRecDepth 100000 in
theorem mC_296 : mC 296 ∈ wT := wT_in 1237 rfl (by decide +kernel)
set_option maxRecDepth 100000 in
theorem mC_297 : mC 297 ∈ wT := wT_in 1247 rfl (by decide +kernel)
set_option maxRecDepth 100000 in
theorem mC_298 : mC 298 ∈ wT := wT_in 1255 rfl (by decide +kernel)
set_option maxRecDepth 100000 in
theorem mC_299 : mC 299 ∈ wT := wT_in 1262 rfl (by decide +kernel)
set_option maxRecDepth 100000 in
theorem mC_300 : mC 300 ∈ wT := wT_in 1269 rfl (by decide +kernel)
set_option maxRecDepth 100000 in
theorem mC_301 : mC 301 ∈ wT := wT_in 1276 rfl (by decide +kernel)
set_option maxRecDepth 100000 in
theorem mC_302 : mC 302 ∈ wT := wT_in 1283 rfl (by decide +kernel)
set_option maxRecDepth 100000 in
theorem mC_303 : mC 303 ∈ wT := wT_in 1290 rfl (by decide +kernel)
set_option maxRecDepth 100000 in
theorem mC_304 : mC 304 ∈ wT := wT_in 1299 rfl (by decide +kernel)
set_option maxRecDepth 100000 in
theorem mC_305 : mC 305 ∈ wT := wT_in 1306 rfl (by decide +kernel)
set_option maxRecDepth 100000 in
theorem mC_306 : mC 306 ∈ wT := wT_in 1313 rfl (by decide +kernel)
set_option maxRecDepth 100000 in
theorem mC_307 : mC 307 ∈ wT := wT_in 1320 rfl (by decide +kernel)
set_option maxRecDepth 100000 in
theorem mC_308 : mC 308 ∈ wT := wT_in 1352 rfl (by decide +kernel)
set_option maxRecDepth 100000 in
theorem mC_310 : mC 310 ∈ wT := wT_in 464 rfl (by decide +kernel)
set_option maxRecDepth 100000 in
theorem mC_311 : mC 311 ∈ wT := wT_in 286 rfl (by decide +kernel)
