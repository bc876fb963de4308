theorem exL_in {i : Nat} {w : Cond} (h : tables_1[i]? = some w) (hg : exP w = true) : w ∈ exL := List.mem_filter.mpr ⟨List.mem_of_getElem? h, hg⟩
theorem tblG_sel {i : Nat} {w : Cond} (h : (k2_sels lw_privs)[i]? = some w) (hg : goodWord w = true) : w ∈ tblG := List.mem_filter.mpr ⟨List.mem_append_left _ (List.mem_of_getElem? h), hg⟩
theorem iniG0 : Cond.initialized (cn 0) ∈ tblG := tblG_in (i := 4) (by decide +kernel) (by decide +kernel)
theorem iniG1 : Cond.initialized (cn 1) ∈ tblG := tblG_in (i := 10) (by decide +kernel) (by decide +kernel)
theorem iniG2 : Cond.initialized (cn 2) ∈ tblG := tblG_in (i := 3) (by decide +kernel) (by decide +kernel)
theorem iniG3 : Cond.initialized (cn 3) ∈ tblG := tblG_in (i := 2) (by decide +kernel) (by decide +kernel)
theorem iniG4 : Cond.initialized (cn 4) ∈ tblG := tblG_in (i := 9) (by decide +kernel) (by decide +kernel)
theorem iniG5 : Cond.initialized (cn 5) ∈ tblG := tblG_in (i := 11) (by decide +kernel) (by decide +kernel)
theorem iniG6 : Cond.initialized (cn 6) ∈ tblG := tblG_in (i := 7) (by decide +kernel) (by decide +kernel)
theorem iniG7 : Cond.initialized (cn 7) ∈ tblG := tblG_in (i := 8) (by decide +kernel) (by decide +kernel)
theorem iniG8 : Cond.initialized (cn 8) ∈ tblG := tblG_in (i := 12) (by decide +kernel) (by decide +kernel)
theorem iniG9 : Cond.initialized (cn 9) ∈ tblG := tblG_in (i := 6) (by decide +kernel) (by decide +kernel)
theorem iniG10 : Cond.initialized (cn 10) ∈ tblG := tblG_in (i := 5) (by decide +kernel) (by decide +kernel)
theorem iniG11 : Cond.initialized (cn 11) ∈ tblG := tblG_in (i := 1) (by decide +kernel) (by decide +kernel)
theorem iniG12 : Cond.initialized (cn 12) ∈ tblG := tblG_in (i := 13) (by decide +kernel) (by decide +kernel)
theorem iniG13 : Cond.initialized (cn 13) ∈ tblG := tblG_in (i := 0) (by decide +kernel) (by decide +kernel)
theorem inX0 : ∀ w ∈ u_ws RX0 TX0 11, w ∈ tblG := by decide +kernel
theorem inX1 : ∀ w ∈ u_ws RX1 TX1 11, w ∈ tblG := by decide +kernel
theorem inX2 : ∀ w ∈ u_ws RX2 TX2 8, w ∈ tblG := by decide +kernel
theorem inX3 : ∀ w ∈ u_ws RX3 TX3 17, w ∈ tblG := by decide +kernel
theorem inX4 : ∀ w ∈ u_ws RX4 TX4 8, w ∈ tblG := by decide +kernel
theorem inX5 : ∀ w ∈ u_ws RX5 TX5 14, w ∈ tblG := by decide +kernel
theorem inX6 : ∀ w ∈ u_ws RX6 TX6 1, w ∈ tblG := by decide +kernel
theorem inX7 : ∀ w ∈ u_ws RX7 TX7 11, w ∈ tblG := by decide +kernel
theorem inX8 : ∀ w ∈ u_ws RX8 TX8 4, w ∈ tblG := by decide +kernel
theorem inX9 : ∀ w ∈ u_ws RX9 TX9 10, w ∈ tblG := by decide +kernel
theorem inX10 : ∀ w ∈ u_ws RX10 TX10 12, w ∈ tblG := by decide +kernel
theorem inX11 : ∀ w ∈ u_ws RX11 TX11 12, w ∈ tblG := by decide +kernel
theorem inX12 : ∀ w ∈ u_ws RX12 TX12 40, w ∈ tblG := by decide +kernel
def mX0_init : Mth := (yX0_init, cX0_init, 1, none, 0, [])
def mX0_addTelling : Mth := (yX0_addTelling, cX0_addTelling, 5, (some .int), 0, [])
def mX0_addListed : Mth := (yX0_addListed, cX0_addListed, 6, (some .int), 0, [])
def mX0_addRecord : Mth := (yX0_addRecord, cX0_addRecord, 6, (some .int), 0, [])
def mX0_recordsOf : Mth := (yX0_recordsOf, cX0_recordsOf, 6, (some .int), 0, [])
def mX0_take : Mth := (yX0_take, cX0_take, 2, none, 0, [])
def mX1_init : Mth := (yX1_init, cX1_init, 3, none, 1, [])
def mX1_begin : Mth := (yX1_begin, cX1_begin, 7, none, 1, [])
def mX1_search : Mth := (yX1_search, cX1_search, 5, (some .boolean), 1, [])
def mX1_allGoOn : Mth := (yX1_allGoOn, cX1_allGoOn, 6, (some .boolean), 1, [])
def mX1_arriving : Mth := (yX1_arriving, cX1_arriving, 11, (some .int), 1, [])
def mX1_judge : Mth := (yX1_judge, cX1_judge, 5, none, 1, [])
def mX2_init : Mth := (yX2_init, cX2_init, 1, none, 2, [])
def mX2_addTongue : Mth := (yX2_addTongue, cX2_addTongue, 2, (some .int), 2, [])
def mX2_addWalker : Mth := (yX2_addWalker, cX2_addWalker, 6, (some .int), 2, [])
def mX2_kindsOf : Mth := (yX2_kindsOf, cX2_kindsOf, 3, (some .int), 2, [])
def mX2_howManyKnow : Mth := (yX2_howManyKnow, cX2_howManyKnow, 7, (some .int), 2, [])
def mX2_take : Mth := (yX2_take, cX2_take, 3, none, 2, [])
def mX3_init : Mth := (yX3_init, cX3_init, 1, none, 3, [])
def mX3_isTaken : Mth := (yX3_isTaken, cX3_isTaken, 4, (some .boolean), 3, [])
def mX3_addPlace : Mth := (yX3_addPlace, cX3_addPlace, 3, (some .int), 3, [])
def mX3_isJoined : Mth := (yX3_isJoined, cX3_isJoined, 9, (some .boolean), 3, [])
def mX3_addWay : Mth := (yX3_addWay, cX3_addWay, 7, (some .int), 3, [])
def mX3_addMark : Mth := (yX3_addMark, cX3_addMark, 6, (some .int), 3, [])
def mX3_marksOf : Mth := (yX3_marksOf, cX3_marksOf, 5, (some .int), 3, [])
def mX3_take : Mth := (yX3_take, cX3_take, 3, none, 3, [])
def mX4_init : Mth := (yX4_init, cX4_init, 2, none, 4, [])
def mX4_start : Mth := (yX4_start, cX4_start, 2, none, 4, [])
def mX4_spread : Mth := (yX4_spread, cX4_spread, 2, none, 4, [])
def mX4_share : Mth := (yX4_share, cX4_share, 8, none, 4, [])
def mX4_goOn : Mth := (yX4_goOn, cX4_goOn, 7, none, 4, [])
def mX4_partsAt : Mth := (yX4_partsAt, cX4_partsAt, 4, (some .int), 4, [])
def mX4_sumUp : Mth := (yX4_sumUp, cX4_sumUp, 3, none, 4, [])
def mX4_meet : Mth := (yX4_meet, cX4_meet, 8, (some .int), 4, [])
def mX5_init : Mth := (yX5_init, cX5_init, 1, none, 5, [])
def mX5_put : Mth := (yX5_put, cX5_put, 3, none, 5, [])
def mX5_read : Mth := (yX5_read, cX5_read, 4, (some .int), 5, [])
def mX5_scan : Mth := (yX5_scan, cX5_scan, 2, none, 5, [])
def mX5_scanNumber : Mth := (yX5_scanNumber, cX5_scanNumber, 2, none, 5, [])
def mX5_scanWord : Mth := (yX5_scanWord, cX5_scanWord, 3, none, 5, [])
def mX5_isWord : Mth := (yX5_isWord, cX5_isWord, 4, (some .boolean), 5, [])
def mX5_take : Mth := (yX5_take, cX5_take, 1, (some .int), 5, [])
def mX5_await : Mth := (yX5_await, cX5_await, 3, (some .int), 5, [])
def mX5_keep : Mth := (yX5_keep, cX5_keep, 4, (some .int), 5, [])
def mX5_takeFirst : Mth := (yX5_takeFirst, cX5_takeFirst, 2, (some .int), 5, [])
def mX5_takeWord : Mth := (yX5_takeWord, cX5_takeWord, 1, (some .int), 5, [])
def mX5_isBadNumber : Mth := (yX5_isBadNumber, cX5_isBadNumber, 1, (some .boolean), 5, [])
def mX5_takeAmount : Mth := (yX5_takeAmount, cX5_takeAmount, 2, (some .int), 5, [])
def mX5_takeSide : Mth := (yX5_takeSide, cX5_takeSide, 1, (some .int), 5, [])
def mX5_takeMore : Mth := (yX5_takeMore, cX5_takeMore, 1, (some .int), 5, [])
def mX6_init : Mth := (yX6_init, cX6_init, 1, none, 6, [])
def mX6_stateOf : Mth := (yX6_stateOf, cX6_stateOf, 2, (some .int), 6, [])
def mX6_clear : Mth := (yX6_clear, cX6_clear, 1, none, 6, [])
def mX6_add : Mth := (yX6_add, cX6_add, 3, none, 6, [])
def mX6_addArrows : Mth := (yX6_addArrows, cX6_addArrows, 5, none, 6, [])
def mX6_isEmpty : Mth := (yX6_isEmpty, cX6_isEmpty, 1, (some .boolean), 6, [])
def mX6_size : Mth := (yX6_size, cX6_size, 1, (some .int), 6, [])
def mX6_list : Mth := (yX6_list, cX6_list, 8, (some .int), 6, [])
def mX6_nth : Mth := (yX6_nth, cX6_nth, 5, (some .int), 6, [])
def mX7_init : Mth := (yX7_init, cX7_init, 2, none, 7, [])
def mX7_begin : Mth := (yX7_begin, cX7_begin, 6, none, 7, [])
def mX7_go : Mth := (yX7_go, cX7_go, 3, (some .boolean), 7, [])
def mX7_clearNow : Mth := (yX7_clearNow, cX7_clearNow, 2, none, 7, [])
def mX7_carry : Mth := (yX7_carry, cX7_carry, 12, none, 7, [])
def mX8_init : Mth := (yX8_init, cX8_init, 1, none, 8, [])
def mX8_lay : Mth := (yX8_lay, cX8_lay, 3, none, 8, [])
def mX8_cut : Mth := (yX8_cut, cX8_cut, 3, (some .long), 8, [])
def mX8_isSayable : Mth := (yX8_isSayable, cX8_isSayable, 2, (some .boolean), 8, [])
def mX9_init : Mth := (yX9_init, cX9_init, 4, none, 9, [])
def mX9_learnGround : Mth := (yX9_learnGround, cX9_learnGround, 4, none, 9, [])
def mX9_become : Mth := (yX9_become, cX9_become, 2, none, 9, [])
def mX9_suppose : Mth := (yX9_suppose, cX9_suppose, 4, none, 9, [])
def mX9_placesWith : Mth := (yX9_placesWith, cX9_placesWith, 2, (some .long), 9, [])
def mX9_seenPlaces : Mth := (yX9_seenPlaces, cX9_seenPlaces, 2, (some .long), 9, [])
def mX9_lead : Mth := (yX9_lead, cX9_lead, 7, none, 9, [])
def mX9_sideOf : Mth := (yX9_sideOf, cX9_sideOf, 3, (some .int), 9, [])
def mX9_goTimes : Mth := (yX9_goTimes, cX9_goTimes, 7, none, 9, [])
def mX9_goUntil : Mth := (yX9_goUntil, cX9_goUntil, 11, none, 9, [])
def mX9_goFar : Mth := (yX9_goFar, cX9_goFar, 12, none, 9, [])
def mX9_staySeeing : Mth := (yX9_staySeeing, cX9_staySeeing, 7, none, 9, [])
def mX9_stayAheadOf : Mth := (yX9_stayAheadOf, cX9_stayAheadOf, 10, none, 9, [])
def mX9_goBack : Mth := (yX9_goBack, cX9_goBack, 5, none, 9, [])
def mX9_turn : Mth := (yX9_turn, cX9_turn, 7, none, 9, [])
def mX9_turnAt : Mth := (yX9_turnAt, cX9_turnAt, 21, none, 9, [])
def mX9_follow : Mth := (yX9_follow, cX9_follow, 8, (some .int), 9, [])
def mX9_lastPlaces : Mth := (yX9_lastPlaces, cX9_lastPlaces, 3, (some .long), 9, [])
def mX9_getsThere : Mth := (yX9_getsThere, cX9_getsThere, 3, (some .boolean), 9, [])
def mX10_init : Mth := (yX10_init, cX10_init, 2, none, 10, [])
def mX10_forget : Mth := (yX10_forget, cX10_forget, 1, none, 10, [])
def mX10_isPreparedFor : Mth := (yX10_isPreparedFor, cX10_isPreparedFor, 2, (some .boolean), 10, [])
def mX10_prepare : Mth := (yX10_prepare, cX10_prepare, 5, none, 10, [])
def mX10_layWays : Mth := (yX10_layWays, cX10_layWays, 4, none, 10, [])
def mX10_isThere : Mth := (yX10_isThere, cX10_isThere, 4, (some .boolean), 10, [])
def mX10_addWay : Mth := (yX10_addWay, cX10_addWay, 9, none, 10, [])
def mX10_addMark : Mth := (yX10_addMark, cX10_addMark, 5, none, 10, [])
def mX10_placesWith : Mth := (yX10_placesWith, cX10_placesWith, 5, (some .long), 10, [])
def mX10_seenPlaces : Mth := (yX10_seenPlaces, cX10_seenPlaces, 7, (some .long), 10, [])
def mX10_look : Mth := (yX10_look, cX10_look, 30, (some .int), 10, [])
def mX10_placesOf : Mth := (yX10_placesOf, cX10_placesOf, 8, (some .long), 10, [])
def mX11_init : Mth := (yX11_init, cX11_init, 2, none, 11, [])
def mX11_place : Mth := (yX11_place, cX11_place, 3, (some .int), 11, [])
def mX11_way : Mth := (yX11_way, cX11_way, 7, (some .int), 11, [])
def mX11_mark : Mth := (yX11_mark, cX11_mark, 6, (some .int), 11, [])
def mX11_ends : Mth := (yX11_ends, cX11_ends, 7, (some .int), 11, [])
def mX11_state : Mth := (yX11_state, cX11_state, 3, (some .int), 11, [])
def mX11_out : Mth := (yX11_out, cX11_out, 5, (some .int), 11, [])
def mX11_on : Mth := (yX11_on, cX11_on, 5, (some .int), 11, [])
def mX11_tongue : Mth := (yX11_tongue, cX11_tongue, 1, (some .int), 11, [])
def mX11_means : Mth := (yX11_means, cX11_means, 5, (some .int), 11, [])
def mX11_walker : Mth := (yX11_walker, cX11_walker, 6, (some .int), 11, [])
def mX11_stands : Mth := (yX11_stands, cX11_stands, 6, (some .boolean), 11, [])
def mX11_worth : Mth := (yX11_worth, cX11_worth, 6, (some .int), 11, [])
def mX11_feed : Mth := (yX11_feed, cX11_feed, 6, (some .int), 11, [])
def mX11_telling : Mth := (yX11_telling, cX11_telling, 5, (some .int), 11, [])
def mX11_fault : Mth := (yX11_fault, cX11_fault, 2, (some .int), 11, [])
def mX11_sayings : Mth := (yX11_sayings, cX11_sayings, 2, (some .int), 11, [])
def mX11_leads : Mth := (yX11_leads, cX11_leads, 7, (some .int), 11, [])
def mX11_holds : Mth := (yX11_holds, cX11_holds, 5, (some .int), 11, [])
def mX11_end : Mth := (yX11_end, cX11_end, 8, (some .int), 11, [])
def mX11_right : Mth := (yX11_right, cX11_right, 5, (some .boolean), 11, [])
def mX11_odds : Mth := (yX11_odds, cX11_odds, 6, (some .int), 11, [])
def mX11_parts : Mth := (yX11_parts, cX11_parts, 10, (some .int), 11, [])
def mX11_hangs : Mth := (yX11_hangs, cX11_hangs, 8, (some .int), 11, [])
def mX11_years : Mth := (yX11_years, cX11_years, 10, (some .int), 11, [])
def mX11_two : Mth := (yX11_two, cX11_two, 8, (some .int), 11, [])
def mX11_ask : Mth := (yX11_ask, cX11_ask, 12, (some .int), 11, [])
def mX11_lossBehind : Mth := (yX11_lossBehind, cX11_lossBehind, 6, (some .int), 11, [])
def mX11_shortest : Mth := (yX11_shortest, cX11_shortest, 8, (some .int), 11, [])
def mX11_went : Mth := (yX11_went, cX11_went, 6, (some .int), 11, [])
def mX11_learned : Mth := (yX11_learned, cX11_learned, 5, (some .int), 11, [])
def mX11_kindsThatFit : Mth := (yX11_kindsThatFit, cX11_kindsThatFit, 7, (some .int), 11, [])
def mX11_teller : Mth := (yX11_teller, cX11_teller, 7, (some .int), 11, [])
def mX11_told : Mth := (yX11_told, cX11_told, 3, (some .int), 11, [])
def mX11_tray : Mth := (yX11_tray, cX11_tray, 4, none, 11, [])
def mX11_write : Mth := (yX11_write, cX11_write, 5, (some .long), 11, [])
def mX11_say : Mth := (yX11_say, cX11_say, 4, (some .int), 11, [])
def mX11_image : Mth := (yX11_image, cX11_image, 2, none, 11, [])
def mX11_restore : Mth := (yX11_restore, cX11_restore, 2, none, 11, [])
def mX11_count : Mth := (yX11_count, cX11_count, 2, (some .int), 11, [])
def mX11_needPlace : Mth := (yX11_needPlace, cX11_needPlace, 2, none, 11, [])
def mX11_needState : Mth := (yX11_needState, cX11_needState, 2, none, 11, [])
def mX11_needTongue : Mth := (yX11_needTongue, cX11_needTongue, 2, none, 11, [])
def mX11_needName : Mth := (yX11_needName, cX11_needName, 2, none, 11, [])
def mX11_needWalker : Mth := (yX11_needWalker, cX11_needWalker, 2, none, 11, [])
def mX11_needTelling : Mth := (yX11_needTelling, cX11_needTelling, 2, none, 11, [])
def mX11_needTray : Mth := (yX11_needTray, cX11_needTray, 2, none, 11, [])
def mX11_needLaid : Mth := (yX11_needLaid, cX11_needLaid, 2, none, 11, [])
def mX11_needImage : Mth := (yX11_needImage, cX11_needImage, 2, none, 11, [])
def mX11_needYear : Mth := (yX11_needYear, cX11_needYear, 2, none, 11, [])
def mX11_needYears : Mth := (yX11_needYears, cX11_needYears, 3, none, 11, [])
def mX11_needKinds : Mth := (yX11_needKinds, cX11_needKinds, 2, none, 11, [])
def mX11_needWalkers : Mth := (yX11_needWalkers, cX11_needWalkers, 2, none, 11, [])
def mX11_needTeller : Mth := (yX11_needTeller, cX11_needTeller, 2, none, 11, [])
def mX11_needTold : Mth := (yX11_needTold, cX11_needTold, 5, none, 11, [])
def mX11_setOut : Mth := (yX11_setOut, cX11_setOut, 3, none, 11, [])
def mX11_isIn : Mth := (yX11_isIn, cX11_isIn, 3, (some .boolean), 11, [])
def mX11_lowest : Mth := (yX11_lowest, cX11_lowest, 2, (some .int), 11, [])
def mX11_nthOf : Mth := (yX11_nthOf, cX11_nthOf, 7, (some .int), 11, [])
def mX11_wordOf : Mth := (yX11_wordOf, cX11_wordOf, 3, (some .int), 11, [])
def mX11_listedWord : Mth := (yX11_listedWord, cX11_listedWord, 1, (some .int), 11, [])
def mX12_init : Mth := (yX12_init, cX12_init, 1, none, 12, [])
def mX12_thrown : Mth := (yX12_thrown, cX12_thrown, 1, (some .int), 12, [])
def mX12_fails : Mth := (yX12_fails, cX12_fails, 2, (some .int), 12, [])
def mX12_fell : Mth := (yX12_fell, cX12_fell, 2, (some .boolean), 12, [])
def mX12_within : Mth := (yX12_within, cX12_within, 6, (some .boolean), 12, [])
def mX12_isYear : Mth := (yX12_isYear, cX12_isYear, 1, (some .boolean), 12, [])
def mX12_is : Mth := (yX12_is, cX12_is, 3, (some .boolean), 12, [])
def mX12_isPlace : Mth := (yX12_isPlace, cX12_isPlace, 2, (some .boolean), 12, [])
def mX12_isWalker : Mth := (yX12_isWalker, cX12_isWalker, 2, (some .boolean), 12, [])
def mX12_isTelling : Mth := (yX12_isTelling, cX12_isTelling, 2, (some .boolean), 12, [])
def mX12_isState : Mth := (yX12_isState, cX12_isState, 2, (some .boolean), 12, [])
def mX12_isName : Mth := (yX12_isName, cX12_isName, 1, (some .boolean), 12, [])
def mX12_more : Mth := (yX12_more, cX12_more, 2, (some .int), 12, [])
def mX12_place : Mth := (yX12_place, cX12_place, 4, (some .int), 12, [])
def mX12_wayOf : Mth := (yX12_wayOf, cX12_wayOf, 3, (some .int), 12, [])
def mX12_way : Mth := (yX12_way, cX12_way, 9, (some .int), 12, [])
def mX12_mark : Mth := (yX12_mark, cX12_mark, 7, (some .int), 12, [])
def mX12_ends : Mth := (yX12_ends, cX12_ends, 6, (some .int), 12, [])
def mX12_isThere : Mth := (yX12_isThere, cX12_isThere, 3, (some .boolean), 12, [])
def mX12_endOf : Mth := (yX12_endOf, cX12_endOf, 3, (some .int), 12, [])
def mX12_placeOf : Mth := (yX12_placeOf, cX12_placeOf, 2, (some .int), 12, [])
def mX12_alongX : Mth := (yX12_alongX, cX12_alongX, 2, (some .int), 12, [])
def mX12_alongY : Mth := (yX12_alongY, cX12_alongY, 2, (some .int), 12, [])
def mX12_state : Mth := (yX12_state, cX12_state, 3, (some .int), 12, [])
def mX12_isOut : Mth := (yX12_isOut, cX12_isOut, 4, (some .boolean), 12, [])
def mX12_cross : Mth := (yX12_cross, cX12_cross, 3, (some .int), 12, [])
def mX12_isLessTurned : Mth := (yX12_isLessTurned, cX12_isLessTurned, 4, (some .boolean), 12, [])
def mX12_dots : Mth := (yX12_dots, cX12_dots, 5, (some .long), 12, [])
def mX12_sizes : Mth := (yX12_sizes, cX12_sizes, 2, (some .long), 12, [])
def mX12_out : Mth := (yX12_out, cX12_out, 7, (some .int), 12, [])
def mX12_has : Mth := (yX12_has, cX12_has, 3, (some .boolean), 12, [])
def mX12_put : Mth := (yX12_put, cX12_put, 3, none, 12, [])
def mX12_join : Mth := (yX12_join, cX12_join, 5, none, 12, [])
def mX12_empty : Mth := (yX12_empty, cX12_empty, 3, none, 12, [])
def mX12_copy : Mth := (yX12_copy, cX12_copy, 5, none, 12, [])
def mX12_isNone : Mth := (yX12_isNone, cX12_isNone, 2, (some .boolean), 12, [])
def mX12_sideAt : Mth := (yX12_sideAt, cX12_sideAt, 3, (some .int), 12, [])
def mX12_lay : Mth := (yX12_lay, cX12_lay, 3, none, 12, [])
def mX12_layOne : Mth := (yX12_layOne, cX12_layOne, 7, none, 12, [])
def mX12_sizeOf : Mth := (yX12_sizeOf, cX12_sizeOf, 4, (some .int), 12, [])
def mX12_numberOf : Mth := (yX12_numberOf, cX12_numberOf, 5, (some .int), 12, [])
def mX12_on : Mth := (yX12_on, cX12_on, 4, (some .int), 12, [])
def mX12_tongue : Mth := (yX12_tongue, cX12_tongue, 3, (some .int), 12, [])
def mX12_means : Mth := (yX12_means, cX12_means, 5, (some .int), 12, [])
def mX12_walker : Mth := (yX12_walker, cX12_walker, 7, (some .int), 12, [])
def mX12_patience : Mth := (yX12_patience, cX12_patience, 2, (some .int), 12, [])
def mX12_countsPaths : Mth := (yX12_countsPaths, cX12_countsPaths, 2, (some .boolean), 12, [])
def mX12_kindsOf : Mth := (yX12_kindsOf, cX12_kindsOf, 3, (some .int), 12, [])
def mX12_isMark : Mth := (yX12_isMark, cX12_isMark, 4, (some .boolean), 12, [])
def mX12_standsAt : Mth := (yX12_standsAt, cX12_standsAt, 7, (some .boolean), 12, [])
def mX12_isSeenAt : Mth := (yX12_isSeenAt, cX12_isSeenAt, 7, (some .boolean), 12, [])
def mX12_areJoined : Mth := (yX12_areJoined, cX12_areJoined, 5, (some .boolean), 12, [])
def mX12_standing : Mth := (yX12_standing, cX12_standing, 6, (some .int), 12, [])
def mX12_stands : Mth := (yX12_stands, cX12_stands, 6, (some .boolean), 12, [])
def mX12_worth : Mth := (yX12_worth, cX12_worth, 9, (some .int), 12, [])
def mX12_feed : Mth := (yX12_feed, cX12_feed, 8, (some .int), 12, [])
def mX12_see : Mth := (yX12_see, cX12_see, 2, (some .int), 12, [])
def mX12_isLetter : Mth := (yX12_isLetter, cX12_isLetter, 1, (some .boolean), 12, [])
def mX12_isDigit : Mth := (yX12_isDigit, cX12_isDigit, 1, (some .boolean), 12, [])
def mX12_next : Mth := (yX12_next, cX12_next, 2, none, 12, [])
def mX12_wrong : Mth := (yX12_wrong, cX12_wrong, 2, none, 12, [])
def mX12_isWord : Mth := (yX12_isWord, cX12_isWord, 4, (some .boolean), 12, [])
def mX12_nameNow : Mth := (yX12_nameNow, cX12_nameNow, 1, (some .int), 12, [])
def mX12_readName : Mth := (yX12_readName, cX12_readName, 2, (some .int), 12, [])
def mX12_readNumber : Mth := (yX12_readNumber, cX12_readNumber, 2, (some .int), 12, [])
def mX12_sideNow : Mth := (yX12_sideNow, cX12_sideNow, 1, (some .int), 12, [])
def mX12_wordAt : Mth := (yX12_wordAt, cX12_wordAt, 2, (some .int), 12, [])
def mX12_lays : Mth := (yX12_lays, cX12_lays, 6, none, 12, [])
def mX12_isBegun : Mth := (yX12_isBegun, cX12_isBegun, 1, (some .boolean), 12, [])
def mX12_readWord : Mth := (yX12_readWord, cX12_readWord, 6, none, 12, [])
def mX12_readNth : Mth := (yX12_readNth, cX12_readNth, 5, none, 12, [])
def mX12_readSaying : Mth := (yX12_readSaying, cX12_readSaying, 3, none, 12, [])
def mX12_keeps : Mth := (yX12_keeps, cX12_keeps, 6, (some .int), 12, [])
def mX12_telling : Mth := (yX12_telling, cX12_telling, 5, (some .int), 12, [])
def mX12_fault : Mth := (yX12_fault, cX12_fault, 2, (some .int), 12, [])
def mX12_sayingsOf : Mth := (yX12_sayingsOf, cX12_sayingsOf, 2, (some .int), 12, [])
def mX12_goalOf : Mth := (yX12_goalOf, cX12_goalOf, 2, (some .int), 12, [])
def mX12_sayings : Mth := (yX12_sayings, cX12_sayings, 2, (some .int), 12, [])
def mX12_goOn : Mth := (yX12_goOn, cX12_goOn, 6, none, 12, [])
def mX12_word : Mth := (yX12_word, cX12_word, 10, none, 12, [])
def mX12_sideOf : Mth := (yX12_sideOf, cX12_sideOf, 3, (some .int), 12, [])
def mX12_onTimes : Mth := (yX12_onTimes, cX12_onTimes, 8, none, 12, [])
def mX12_until : Mth := (yX12_until, cX12_until, 11, none, 12, [])
def mX12_isOver : Mth := (yX12_isOver, cX12_isOver, 7, (some .boolean), 12, [])
def mX12_far : Mth := (yX12_far, cX12_far, 9, none, 12, [])
def mX12_goOnFar : Mth := (yX12_goOnFar, cX12_goOnFar, 4, none, 12, [])
def mX12_nth : Mth := (yX12_nth, cX12_nth, 15, none, 12, [])
def mX12_says : Mth := (yX12_says, cX12_says, 7, none, 12, [])
def mX12_goes : Mth := (yX12_goes, cX12_goes, 7, (some .int), 12, [])
def mX12_placesOf : Mth := (yX12_placesOf, cX12_placesOf, 4, (some .int), 12, [])
def mX12_isRight : Mth := (yX12_isRight, cX12_isRight, 6, (some .boolean), 12, [])
def mX12_areThere : Mth := (yX12_areThere, cX12_areThere, 4, (some .boolean), 12, [])
def mX12_leads : Mth := (yX12_leads, cX12_leads, 8, (some .int), 12, [])
def mX12_holds : Mth := (yX12_holds, cX12_holds, 5, (some .int), 12, [])
def mX12_end : Mth := (yX12_end, cX12_end, 10, (some .int), 12, [])
def mX12_right : Mth := (yX12_right, cX12_right, 5, (some .boolean), 12, [])
def mX12_parted : Mth := (yX12_parted, cX12_parted, 7, none, 12, [])
def mX12_oddsOn : Mth := (yX12_oddsOn, cX12_oddsOn, 6, none, 12, [])
def mX12_shareAt : Mth := (yX12_shareAt, cX12_shareAt, 4, (some .int), 12, [])
def mX12_oddsFrom : Mth := (yX12_oddsFrom, cX12_oddsFrom, 6, none, 12, [])
def mX12_odds : Mth := (yX12_odds, cX12_odds, 6, (some .int), 12, [])
def mX12_parts : Mth := (yX12_parts, cX12_parts, 8, (some .int), 12, [])
def mX12_hangs : Mth := (yX12_hangs, cX12_hangs, 8, (some .int), 12, [])
def mX12_years : Mth := (yX12_years, cX12_years, 9, (some .int), 12, [])
def mX12_two : Mth := (yX12_two, cX12_two, 11, (some .int), 12, [])
def mX12_ask : Mth := (yX12_ask, cX12_ask, 12, (some .int), 12, [])
def mX12_tries : Mth := (yX12_tries, cX12_tries, 8, (some .boolean), 12, [])
def mX12_areAll : Mth := (yX12_areAll, cX12_areAll, 4, (some .boolean), 12, [])
def mX12_seek : Mth := (yX12_seek, cX12_seek, 4, (some .boolean), 12, [])
def mX12_shortest : Mth := (yX12_shortest, cX12_shortest, 8, (some .int), 12, [])
def mX12_went : Mth := (yX12_went, cX12_went, 7, (some .int), 12, [])
def mX12_isAsWent : Mth := (yX12_isAsWent, cX12_isAsWent, 5, (some .boolean), 12, [])
def mX12_learned : Mth := (yX12_learned, cX12_learned, 7, (some .int), 12, [])
def mX12_records : Mth := (yX12_records, cX12_records, 7, (some .int), 12, [])
def mX12_teller : Mth := (yX12_teller, cX12_teller, 3, (some .int), 12, [])
def mX12_told : Mth := (yX12_told, cX12_told, 3, (some .int), 12, [])
def mX12_isTray : Mth := (yX12_isTray, cX12_isTray, 1, (some .boolean), 12, [])
def mX12_tray : Mth := (yX12_tray, cX12_tray, 5, none, 12, [])
def mX12_write : Mth := (yX12_write, cX12_write, 6, (some .long), 12, [])
def mX12_say : Mth := (yX12_say, cX12_say, 6, (some .int), 12, [])
def mX12_image : Mth := (yX12_image, cX12_image, 3, none, 12, [])
def mX12_restore : Mth := (yX12_restore, cX12_restore, 3, none, 12, [])
def mX12_count : Mth := (yX12_count, cX12_count, 2, (some .int), 12, [])
def mL_place : Mth := (yL_place, cL_place, 5, (some .int), 13, [(0, 10, 13, 13)])
def mL_way : Mth := (yL_way, cL_way, 9, (some .int), 13, [(0, 18, 21, 19), (0, 18, 25, 13)])
def mL_mark : Mth := (yL_mark, cL_mark, 8, (some .int), 13, [(0, 16, 19, 19), (0, 16, 23, 13)])
def mL_ends : Mth := (yL_ends, cL_ends, 6, (some .int), 13, [(0, 12, 15, 19), (0, 12, 19, 13)])
def mL_state : Mth := (yL_state, cL_state, 5, (some .int), 13, [(0, 10, 13, 19), (0, 10, 17, 13)])
def mL_out : Mth := (yL_out, cL_out, 6, (some .int), 13, [(0, 12, 15, 19), (0, 12, 19, 13)])
def mL_on : Mth := (yL_on, cL_on, 6, (some .int), 13, [(0, 12, 15, 19), (0, 12, 19, 13)])
def mL_means : Mth := (yL_means, cL_means, 6, (some .int), 13, [(0, 12, 15, 19), (0, 12, 19, 13)])
def mL_walker : Mth := (yL_walker, cL_walker, 8, (some .int), 13, [(0, 16, 19, 19), (0, 16, 23, 13)])
def mL_stands : Mth := (yL_stands, cL_stands, 8, (some .int), 13, [(0, 23, 26, 19), (0, 23, 30, 13)])
def mL_worth : Mth := (yL_worth, cL_worth, 7, (some .int), 13, [(0, 14, 17, 19), (0, 14, 21, 13)])
def mL_telling : Mth := (yL_telling, cL_telling, 6, (some .int), 13, [(0, 12, 15, 19), (0, 12, 19, 13)])
def mL_sayings : Mth := (yL_sayings, cL_sayings, 4, (some .int), 13, [(0, 9, 12, 19)])
def mL_leads : Mth := (yL_leads, cL_leads, 9, (some .int), 13, [(0, 18, 21, 19), (0, 18, 25, 13)])
def mL_holds : Mth := (yL_holds, cL_holds, 7, (some .int), 13, [(0, 14, 17, 19), (0, 14, 21, 13)])
def mL_end : Mth := (yL_end, cL_end, 8, (some .int), 13, [(0, 16, 19, 19), (0, 16, 23, 13)])
def mL_right : Mth := (yL_right, cL_right, 7, (some .int), 13, [(0, 21, 24, 19), (0, 21, 28, 13)])
def mL_odds : Mth := (yL_odds, cL_odds, 8, (some .int), 13, [(0, 16, 19, 19), (0, 16, 23, 13)])
def mL_parts : Mth := (yL_parts, cL_parts, 7, (some .int), 13, [(0, 14, 17, 19), (0, 14, 21, 13)])
def mL_hangs : Mth := (yL_hangs, cL_hangs, 8, (some .int), 13, [(0, 16, 19, 19), (0, 16, 23, 13)])
def mL_years : Mth := (yL_years, cL_years, 7, (some .int), 13, [(0, 14, 17, 19), (0, 14, 21, 13)])
def mL_two : Mth := (yL_two, cL_two, 10, (some .int), 13, [(0, 20, 23, 19), (0, 20, 27, 13)])
def mL_ask : Mth := (yL_ask, cL_ask, 10, (some .int), 13, [(0, 20, 23, 19), (0, 20, 27, 13)])
def mL_shortest : Mth := (yL_shortest, cL_shortest, 9, (some .int), 13, [(0, 18, 21, 19), (0, 18, 25, 13)])
def mL_went : Mth := (yL_went, cL_went, 8, (some .int), 13, [(0, 16, 19, 19), (0, 16, 23, 13)])
def mL_learned : Mth := (yL_learned, cL_learned, 5, (some .int), 13, [(0, 10, 13, 19)])
def mL_told : Mth := (yL_told, cL_told, 5, (some .int), 13, [(0, 10, 13, 13)])
def mL_tray : Mth := (yL_tray, cL_tray, 5, (some .int), 13, [(0, 7, 10, 19), (0, 7, 14, 13)])
def mL_write : Mth := (yL_write, cL_write, 7, (some .int), 13, [(0, 11, 14, 19), (0, 11, 18, 117), (0, 11, 22, 119)])
def mL_say : Mth := (yL_say, cL_say, 6, (some .int), 13, [(0, 12, 15, 19), (0, 12, 19, 117), (0, 12, 23, 13)])
def mL_image : Mth := (yL_image, cL_image, 3, (some .int), 13, [(0, 5, 8, 19)])
def mL_restore : Mth := (yL_restore, cL_restore, 3, (some .int), 13, [(0, 5, 8, 19), (0, 5, 11, 117)])
set_option maxRecDepth 100000 in
theorem okX0_init : MOk mX0_init 0 := ⟨rfl, (by decide +kernel), ⟨(by decide +kernel), (by decide +kernel)⟩, (by decide +kernel), tblG_in (i := 172) (by rfl) rfl, iniG0, by decide⟩
set_option maxRecDepth 100000 in
theorem okX0_addTelling : MOk mX0_addTelling 4 := ⟨rfl, (by decide +kernel), ⟨(by decide +kernel), (by decide +kernel)⟩, (by decide +kernel), tblG_in (i := 1319) (by rfl) rfl, iniG0, by decide⟩
set_option maxRecDepth 100000 in
theorem okX0_addListed : MOk mX0_addListed 3 := ⟨rfl, (by decide +kernel), ⟨(by decide +kernel), (by decide +kernel)⟩, (by decide +kernel), tblG_in (i := 1718) (by rfl) rfl, iniG0, by decide⟩
set_option maxRecDepth 100000 in
theorem okX0_addRecord : MOk mX0_addRecord 5 := ⟨rfl, (by decide +kernel), ⟨(by decide +kernel), (by decide +kernel)⟩, (by decide +kernel), tblG_in (i := 1616) (by rfl) rfl, iniG0, by decide⟩
set_option maxRecDepth 100000 in
theorem okX0_recordsOf : MOk mX0_recordsOf 2 := ⟨rfl, (by decide +kernel), ⟨(by decide +kernel), (by decide +kernel)⟩, (by decide +kernel), tblG_in (i := 595) (by rfl) rfl, iniG0, by decide⟩
set_option maxRecDepth 100000 in
theorem okX0_take : MOk mX0_take 1 := ⟨rfl, (by decide +kernel), ⟨(by decide +kernel), (by decide +kernel)⟩, (by decide +kernel), tblG_in (i := 1745) (by rfl) rfl, iniG0, by decide⟩
set_option maxRecDepth 100000 in
theorem okX1_init : MOk mX1_init 1 := ⟨rfl, (by decide +kernel), ⟨(by decide +kernel), (by decide +kernel)⟩, (by decide +kernel), tblG_in (i := 408) (by rfl) rfl, iniG1, by decide⟩
set_option maxRecDepth 100000 in
theorem okX1_begin : MOk mX1_begin 3 := ⟨rfl, (by decide +kernel), ⟨(by decide +kernel), (by decide +kernel)⟩, (by decide +kernel), tblG_in (i := 1565) (by rfl) rfl, iniG1, by decide⟩
set_option maxRecDepth 100000 in
theorem okX1_search : MOk mX1_search 2 := ⟨rfl, (by decide +kernel), ⟨(by decide +kernel), (by decide +kernel)⟩, (by decide +kernel), tblG_in (i := 1575) (by rfl) rfl, iniG1, by decide⟩
set_option maxRecDepth 100000 in
theorem okX1_allGoOn : MOk mX1_allGoOn 2 := ⟨rfl, (by decide +kernel), ⟨(by decide +kernel), (by decide +kernel)⟩, (by decide +kernel), tblG_in (i := 1603) (by rfl) rfl, iniG1, by decide⟩
set_option maxRecDepth 100000 in
theorem okX1_arriving : MOk mX1_arriving 3 := ⟨rfl, (by decide +kernel), ⟨(by decide +kernel), (by decide +kernel)⟩, (by decide +kernel), tblG_in (i := 1580) (by rfl) rfl, iniG1, by decide⟩
set_option maxRecDepth 100000 in
theorem okX1_judge : MOk mX1_judge 2 := ⟨rfl, (by decide +kernel), ⟨(by decide +kernel), (by decide +kernel)⟩, (by decide +kernel), tblG_in (i := 1598) (by rfl) rfl, iniG1, by decide⟩
set_option maxRecDepth 100000 in
theorem okX2_init : MOk mX2_init 0 := ⟨rfl, (by decide +kernel), ⟨(by decide +kernel), (by decide +kernel)⟩, (by decide +kernel), tblG_in (i := 134) (by rfl) rfl, iniG2, by decide⟩
set_option maxRecDepth 100000 in
theorem okX2_addTongue : MOk mX2_addTongue 0 := ⟨rfl, (by decide +kernel), ⟨(by decide +kernel), (by decide +kernel)⟩, (by decide +kernel), tblG_in (i := 575) (by rfl) rfl, iniG2, by decide⟩
set_option maxRecDepth 100000 in
theorem okX2_addWalker : MOk mX2_addWalker 5 := ⟨rfl, (by decide +kernel), ⟨(by decide +kernel), (by decide +kernel)⟩, (by decide +kernel), tblG_in (i := 1151) (by rfl) rfl, iniG2, by decide⟩
set_option maxRecDepth 100000 in
theorem okX2_kindsOf : MOk mX2_kindsOf 2 := ⟨rfl, (by decide +kernel), ⟨(by decide +kernel), (by decide +kernel)⟩, (by decide +kernel), tblG_in (i := 1174) (by rfl) rfl, iniG2, by decide⟩
set_option maxRecDepth 100000 in
theorem okX2_howManyKnow : MOk mX2_howManyKnow 2 := ⟨rfl, (by decide +kernel), ⟨(by decide +kernel), (by decide +kernel)⟩, (by decide +kernel), tblG_in (i := 1211) (by rfl) rfl, iniG2, by decide⟩
set_option maxRecDepth 100000 in
theorem okX2_take : MOk mX2_take 1 := ⟨rfl, (by decide +kernel), ⟨(by decide +kernel), (by decide +kernel)⟩, (by decide +kernel), tblG_in (i := 1740) (by rfl) rfl, iniG2, by decide⟩
set_option maxRecDepth 100000 in
theorem okX3_init : MOk mX3_init 0 := ⟨rfl, (by decide +kernel), ⟨(by decide +kernel), (by decide +kernel)⟩, (by decide +kernel), tblG_in (i := 46) (by rfl) rfl, iniG3, by decide⟩
set_option maxRecDepth 100000 in
theorem okX3_isTaken : MOk mX3_isTaken 2 := ⟨rfl, (by decide +kernel), ⟨(by decide +kernel), (by decide +kernel)⟩, (by decide +kernel), tblG_in (i := 611) (by rfl) rfl, iniG3, by decide⟩
set_option maxRecDepth 100000 in
theorem okX3_addPlace : MOk mX3_addPlace 2 := ⟨rfl, (by decide +kernel), ⟨(by decide +kernel), (by decide +kernel)⟩, (by decide +kernel), tblG_in (i := 681) (by rfl) rfl, iniG3, by decide⟩
set_option maxRecDepth 100000 in
theorem okX3_isJoined : MOk mX3_isJoined 4 := ⟨rfl, (by decide +kernel), ⟨(by decide +kernel), (by decide +kernel)⟩, (by decide +kernel), tblG_in (i := 716) (by rfl) rfl, iniG3, by decide⟩
set_option maxRecDepth 100000 in
theorem okX3_addWay : MOk mX3_addWay 6 := ⟨rfl, (by decide +kernel), ⟨(by decide +kernel), (by decide +kernel)⟩, (by decide +kernel), tblG_in (i := 724) (by rfl) rfl, iniG3, by decide⟩
set_option maxRecDepth 100000 in
theorem okX3_addMark : MOk mX3_addMark 5 := ⟨rfl, (by decide +kernel), ⟨(by decide +kernel), (by decide +kernel)⟩, (by decide +kernel), tblG_in (i := 735) (by rfl) rfl, iniG3, by decide⟩
set_option maxRecDepth 100000 in
theorem okX3_marksOf : MOk mX3_marksOf 2 := ⟨rfl, (by decide +kernel), ⟨(by decide +kernel), (by decide +kernel)⟩, (by decide +kernel), tblG_in (i := 1217) (by rfl) rfl, iniG3, by decide⟩
set_option maxRecDepth 100000 in
theorem okX3_take : MOk mX3_take 1 := ⟨rfl, (by decide +kernel), ⟨(by decide +kernel), (by decide +kernel)⟩, (by decide +kernel), tblG_in (i := 1735) (by rfl) rfl, iniG3, by decide⟩
set_option maxRecDepth 100000 in
theorem okX4_init : MOk mX4_init 1 := ⟨rfl, (by decide +kernel), ⟨(by decide +kernel), (by decide +kernel)⟩, (by decide +kernel), tblG_in (i := 375) (by rfl) rfl, iniG4, by decide⟩
set_option maxRecDepth 100000 in
theorem okX4_start : MOk mX4_start 1 := ⟨rfl, (by decide +kernel), ⟨(by decide +kernel), (by decide +kernel)⟩, (by decide +kernel), tblG_in (i := 1480) (by rfl) rfl, iniG4, by decide⟩
set_option maxRecDepth 100000 in
theorem okX4_spread : MOk mX4_spread 1 := ⟨rfl, (by decide +kernel), ⟨(by decide +kernel), (by decide +kernel)⟩, (by decide +kernel), tblG_in (i := 1554) (by rfl) rfl, iniG4, by decide⟩
set_option maxRecDepth 100000 in
theorem okX4_share : MOk mX4_share 3 := ⟨rfl, (by decide +kernel), ⟨(by decide +kernel), (by decide +kernel)⟩, (by decide +kernel), tblG_in (i := 1492) (by rfl) rfl, iniG4, by decide⟩
set_option maxRecDepth 100000 in
theorem okX4_goOn : MOk mX4_goOn 2 := ⟨rfl, (by decide +kernel), ⟨(by decide +kernel), (by decide +kernel)⟩, (by decide +kernel), tblG_in (i := 1486) (by rfl) rfl, iniG4, by decide⟩
set_option maxRecDepth 100000 in
theorem okX4_partsAt : MOk mX4_partsAt 1 := ⟨rfl, (by decide +kernel), ⟨(by decide +kernel), (by decide +kernel)⟩, (by decide +kernel), tblG_in (i := 1497) (by rfl) rfl, iniG4, by decide⟩
set_option maxRecDepth 100000 in
theorem okX4_sumUp : MOk mX4_sumUp 1 := ⟨rfl, (by decide +kernel), ⟨(by decide +kernel), (by decide +kernel)⟩, (by decide +kernel), tblG_in (i := 1536) (by rfl) rfl, iniG4, by decide⟩
set_option maxRecDepth 100000 in
theorem okX4_meet : MOk mX4_meet 4 := ⟨rfl, (by decide +kernel), ⟨(by decide +kernel), (by decide +kernel)⟩, (by decide +kernel), tblG_in (i := 1530) (by rfl) rfl, iniG4, by decide⟩
set_option maxRecDepth 100000 in
theorem okX5_init : MOk mX5_init 0 := ⟨rfl, (by decide +kernel), ⟨(by decide +kernel), (by decide +kernel)⟩, (by decide +kernel), tblG_in (i := 452) (by rfl) rfl, iniG5, by decide⟩
set_option maxRecDepth 100000 in
theorem okX5_put : MOk mX5_put 1 := ⟨rfl, (by decide +kernel), ⟨(by decide +kernel), (by decide +kernel)⟩, (by decide +kernel), tblG_in (i := 583) (by rfl) rfl, iniG5, by decide⟩
set_option maxRecDepth 100000 in
theorem okX5_read : MOk mX5_read 1 := ⟨rfl, (by decide +kernel), ⟨(by decide +kernel), (by decide +kernel)⟩, (by decide +kernel), tblG_in (i := 1232) (by rfl) rfl, iniG5, by decide⟩
set_option maxRecDepth 100000 in
theorem okX5_scan : MOk mX5_scan 1 := ⟨rfl, (by decide +kernel), ⟨(by decide +kernel), (by decide +kernel)⟩, (by decide +kernel), tblG_in (i := 1239) (by rfl) rfl, iniG5, by decide⟩
set_option maxRecDepth 100000 in
theorem okX5_scanNumber : MOk mX5_scanNumber 1 := ⟨rfl, (by decide +kernel), ⟨(by decide +kernel), (by decide +kernel)⟩, (by decide +kernel), tblG_in (i := 1243) (by rfl) rfl, iniG5, by decide⟩
set_option maxRecDepth 100000 in
theorem okX5_scanWord : MOk mX5_scanWord 1 := ⟨rfl, (by decide +kernel), ⟨(by decide +kernel), (by decide +kernel)⟩, (by decide +kernel), tblG_in (i := 1247) (by rfl) rfl, iniG5, by decide⟩
set_option maxRecDepth 100000 in
theorem okX5_isWord : MOk mX5_isWord 1 := ⟨rfl, (by decide +kernel), ⟨(by decide +kernel), (by decide +kernel)⟩, (by decide +kernel), tblG_in (i := 1251) (by rfl) rfl, iniG5, by decide⟩
set_option maxRecDepth 100000 in
theorem okX5_take : MOk mX5_take 0 := ⟨rfl, (by decide +kernel), ⟨(by decide +kernel), (by decide +kernel)⟩, (by decide +kernel), tblG_in (i := 1280) (by rfl) rfl, iniG5, by decide⟩
set_option maxRecDepth 100000 in
theorem okX5_await : MOk mX5_await 2 := ⟨rfl, (by decide +kernel), ⟨(by decide +kernel), (by decide +kernel)⟩, (by decide +kernel), tblG_in (i := 1292) (by rfl) rfl, iniG5, by decide⟩
set_option maxRecDepth 100000 in
theorem okX5_keep : MOk mX5_keep 2 := ⟨rfl, (by decide +kernel), ⟨(by decide +kernel), (by decide +kernel)⟩, (by decide +kernel), tblG_in (i := 1299) (by rfl) rfl, iniG5, by decide⟩
set_option maxRecDepth 100000 in
theorem okX5_takeFirst : MOk mX5_takeFirst 0 := ⟨rfl, (by decide +kernel), ⟨(by decide +kernel), (by decide +kernel)⟩, (by decide +kernel), tblG_in (i := 1284) (by rfl) rfl, iniG5, by decide⟩
set_option maxRecDepth 100000 in
theorem okX5_takeWord : MOk mX5_takeWord 0 := ⟨rfl, (by decide +kernel), ⟨(by decide +kernel), (by decide +kernel)⟩, (by decide +kernel), tblG_in (i := 1288) (by rfl) rfl, iniG5, by decide⟩
set_option maxRecDepth 100000 in
theorem okX5_isBadNumber : MOk mX5_isBadNumber 0 := ⟨rfl, (by decide +kernel), ⟨(by decide +kernel), (by decide +kernel)⟩, (by decide +kernel), tblG_in (i := 1303) (by rfl) rfl, iniG5, by decide⟩
set_option maxRecDepth 100000 in
theorem okX5_takeAmount : MOk mX5_takeAmount 1 := ⟨rfl, (by decide +kernel), ⟨(by decide +kernel), (by decide +kernel)⟩, (by decide +kernel), tblG_in (i := 1307) (by rfl) rfl, iniG5, by decide⟩
set_option maxRecDepth 100000 in
theorem okX5_takeSide : MOk mX5_takeSide 0 := ⟨rfl, (by decide +kernel), ⟨(by decide +kernel), (by decide +kernel)⟩, (by decide +kernel), tblG_in (i := 1311) (by rfl) rfl, iniG5, by decide⟩
set_option maxRecDepth 100000 in
theorem okX5_takeMore : MOk mX5_takeMore 0 := ⟨rfl, (by decide +kernel), ⟨(by decide +kernel), (by decide +kernel)⟩, (by decide +kernel), tblG_in (i := 1315) (by rfl) rfl, iniG5, by decide⟩
set_option maxRecDepth 100000 in
theorem okX6_init : MOk mX6_init 0 := ⟨rfl, (by decide +kernel), ⟨(by decide +kernel), (by decide +kernel)⟩, (by decide +kernel), tblG_in (i := 286) (by rfl) rfl, iniG6, by decide⟩
set_option maxRecDepth 100000 in
theorem okX6_stateOf : MOk mX6_stateOf 2 := ⟨rfl, (by decide +kernel), ⟨(by decide +kernel), (by decide +kernel)⟩, (by decide +kernel), tblG_in (i := 1361) (by rfl) rfl, iniG6, by decide⟩
set_option maxRecDepth 100000 in
theorem okX6_clear : MOk mX6_clear 0 := ⟨rfl, (by decide +kernel), ⟨(by decide +kernel), (by decide +kernel)⟩, (by decide +kernel), tblG_in (i := 1106) (by rfl) rfl, iniG6, by decide⟩
set_option maxRecDepth 100000 in
theorem okX6_add : MOk mX6_add 1 := ⟨rfl, (by decide +kernel), ⟨(by decide +kernel), (by decide +kernel)⟩, (by decide +kernel), tblG_in (i := 1351) (by rfl) rfl, iniG6, by decide⟩
set_option maxRecDepth 100000 in
theorem okX6_addArrows : MOk mX6_addArrows 2 := ⟨rfl, (by decide +kernel), ⟨(by decide +kernel), (by decide +kernel)⟩, (by decide +kernel), tblG_in (i := 1111) (by rfl) rfl, iniG6, by decide⟩
set_option maxRecDepth 100000 in
theorem okX6_isEmpty : MOk mX6_isEmpty 0 := ⟨rfl, (by decide +kernel), ⟨(by decide +kernel), (by decide +kernel)⟩, (by decide +kernel), tblG_in (i := 1429) (by rfl) rfl, iniG6, by decide⟩
set_option maxRecDepth 100000 in
theorem okX6_size : MOk mX6_size 0 := ⟨rfl, (by decide +kernel), ⟨(by decide +kernel), (by decide +kernel)⟩, (by decide +kernel), tblG_in (i := 1115) (by rfl) rfl, iniG6, by decide⟩
set_option maxRecDepth 100000 in
theorem okX6_list : MOk mX6_list 1 := ⟨rfl, (by decide +kernel), ⟨(by decide +kernel), (by decide +kernel)⟩, (by decide +kernel), tblG_in (i := 1355) (by rfl) rfl, iniG6, by decide⟩
set_option maxRecDepth 100000 in
theorem okX6_nth : MOk mX6_nth 1 := ⟨rfl, (by decide +kernel), ⟨(by decide +kernel), (by decide +kernel)⟩, (by decide +kernel), tblG_in (i := 1120) (by rfl) rfl, iniG6, by decide⟩
set_option maxRecDepth 100000 in
theorem okX7_init : MOk mX7_init 1 := ⟨rfl, (by decide +kernel), ⟨(by decide +kernel), (by decide +kernel)⟩, (by decide +kernel), tblG_in (i := 297) (by rfl) rfl, iniG7, by decide⟩
set_option maxRecDepth 100000 in
theorem okX7_begin : MOk mX7_begin 4 := ⟨rfl, (by decide +kernel), ⟨(by decide +kernel), (by decide +kernel)⟩, (by decide +kernel), tblG_in (i := 1373) (by rfl) rfl, iniG7, by decide⟩
set_option maxRecDepth 100000 in
theorem okX7_go : MOk mX7_go 0 := ⟨rfl, (by decide +kernel), ⟨(by decide +kernel), (by decide +kernel)⟩, (by decide +kernel), tblG_in (i := 1381) (by rfl) rfl, iniG7, by decide⟩
set_option maxRecDepth 100000 in
theorem okX7_clearNow : MOk mX7_clearNow 0 := ⟨rfl, (by decide +kernel), ⟨(by decide +kernel), (by decide +kernel)⟩, (by decide +kernel), tblG_in (i := 1377) (by rfl) rfl, iniG7, by decide⟩
set_option maxRecDepth 100000 in
theorem okX7_carry : MOk mX7_carry 2 := ⟨rfl, (by decide +kernel), ⟨(by decide +kernel), (by decide +kernel)⟩, (by decide +kernel), tblG_in (i := 1386) (by rfl) rfl, iniG7, by decide⟩
set_option maxRecDepth 100000 in
theorem okX8_init : MOk mX8_init 0 := ⟨rfl, (by decide +kernel), ⟨(by decide +kernel), (by decide +kernel)⟩, (by decide +kernel), tblG_in (i := 511) (by rfl) rfl, iniG8, by decide⟩
set_option maxRecDepth 100000 in
theorem okX8_lay : MOk mX8_lay 2 := ⟨rfl, (by decide +kernel), ⟨(by decide +kernel), (by decide +kernel)⟩, (by decide +kernel), tblG_in (i := 1654) (by rfl) rfl, iniG8, by decide⟩
set_option maxRecDepth 100000 in
theorem okX8_cut : MOk mX8_cut 1 := ⟨rfl, (by decide +kernel), ⟨(by decide +kernel), (by decide +kernel)⟩, (by decide +kernel), tblG_in (i := 1702) (by rfl) rfl, iniG8, by decide⟩
set_option maxRecDepth 100000 in
theorem okX8_isSayable : MOk mX8_isSayable 0 := ⟨rfl, (by decide +kernel), ⟨(by decide +kernel), (by decide +kernel)⟩, (by decide +kernel), tblG_in (i := 1713) (by rfl) rfl, iniG8, by decide⟩
set_option maxRecDepth 100000 in
theorem okX9_init : MOk mX9_init 3 := ⟨rfl, (by decide +kernel), ⟨(by decide +kernel), (by decide +kernel)⟩, (by decide +kernel), tblG_in (i := 280) (by rfl) rfl, iniG9, by decide⟩
set_option maxRecDepth 100000 in
theorem okX9_learnGround : MOk mX9_learnGround 1 := ⟨rfl, (by decide +kernel), ⟨(by decide +kernel), (by decide +kernel)⟩, (by decide +kernel), tblG_in (i := 1170) (by rfl) rfl, iniG9, by decide⟩
set_option maxRecDepth 100000 in
theorem okX9_become : MOk mX9_become 1 := ⟨rfl, (by decide +kernel), ⟨(by decide +kernel), (by decide +kernel)⟩, (by decide +kernel), tblG_in (i := 1182) (by rfl) rfl, iniG9, by decide⟩
set_option maxRecDepth 100000 in
theorem okX9_suppose : MOk mX9_suppose 2 := ⟨rfl, (by decide +kernel), ⟨(by decide +kernel), (by decide +kernel)⟩, (by decide +kernel), tblG_in (i := 1631) (by rfl) rfl, iniG9, by decide⟩
set_option maxRecDepth 100000 in
theorem okX9_placesWith : MOk mX9_placesWith 1 := ⟨rfl, (by decide +kernel), ⟨(by decide +kernel), (by decide +kernel)⟩, (by decide +kernel), tblG_in (i := 1195) (by rfl) rfl, iniG9, by decide⟩
set_option maxRecDepth 100000 in
theorem okX9_seenPlaces : MOk mX9_seenPlaces 1 := ⟨rfl, (by decide +kernel), ⟨(by decide +kernel), (by decide +kernel)⟩, (by decide +kernel), tblG_in (i := 1186) (by rfl) rfl, iniG9, by decide⟩
set_option maxRecDepth 100000 in
theorem okX9_lead : MOk mX9_lead 4 := ⟨rfl, (by decide +kernel), ⟨(by decide +kernel), (by decide +kernel)⟩, (by decide +kernel), tblG_in (i := 1365) (by rfl) rfl, iniG9, by decide⟩
set_option maxRecDepth 100000 in
theorem okX9_sideOf : MOk mX9_sideOf 2 := ⟨rfl, (by decide +kernel), ⟨(by decide +kernel), (by decide +kernel)⟩, (by decide +kernel), tblG_in (i := 1417) (by rfl) rfl, iniG9, by decide⟩
set_option maxRecDepth 100000 in
theorem okX9_goTimes : MOk mX9_goTimes 4 := ⟨rfl, (by decide +kernel), ⟨(by decide +kernel), (by decide +kernel)⟩, (by decide +kernel), tblG_in (i := 1369) (by rfl) rfl, iniG9, by decide⟩
set_option maxRecDepth 100000 in
theorem okX9_goUntil : MOk mX9_goUntil 5 := ⟨rfl, (by decide +kernel), ⟨(by decide +kernel), (by decide +kernel)⟩, (by decide +kernel), tblG_in (i := 1392) (by rfl) rfl, iniG9, by decide⟩
set_option maxRecDepth 100000 in
theorem okX9_goFar : MOk mX9_goFar 4 := ⟨rfl, (by decide +kernel), ⟨(by decide +kernel), (by decide +kernel)⟩, (by decide +kernel), tblG_in (i := 1399) (by rfl) rfl, iniG9, by decide⟩
set_option maxRecDepth 100000 in
theorem okX9_staySeeing : MOk mX9_staySeeing 4 := ⟨rfl, (by decide +kernel), ⟨(by decide +kernel), (by decide +kernel)⟩, (by decide +kernel), tblG_in (i := 1404) (by rfl) rfl, iniG9, by decide⟩
set_option maxRecDepth 100000 in
theorem okX9_stayAheadOf : MOk mX9_stayAheadOf 4 := ⟨rfl, (by decide +kernel), ⟨(by decide +kernel), (by decide +kernel)⟩, (by decide +kernel), tblG_in (i := 1408) (by rfl) rfl, iniG9, by decide⟩
set_option maxRecDepth 100000 in
theorem okX9_goBack : MOk mX9_goBack 3 := ⟨rfl, (by decide +kernel), ⟨(by decide +kernel), (by decide +kernel)⟩, (by decide +kernel), tblG_in (i := 1413) (by rfl) rfl, iniG9, by decide⟩
set_option maxRecDepth 100000 in
theorem okX9_turn : MOk mX9_turn 4 := ⟨rfl, (by decide +kernel), ⟨(by decide +kernel), (by decide +kernel)⟩, (by decide +kernel), tblG_in (i := 1421) (by rfl) rfl, iniG9, by decide⟩
set_option maxRecDepth 100000 in
theorem okX9_turnAt : MOk mX9_turnAt 4 := ⟨rfl, (by decide +kernel), ⟨(by decide +kernel), (by decide +kernel)⟩, (by decide +kernel), tblG_in (i := 1425) (by rfl) rfl, iniG9, by decide⟩
set_option maxRecDepth 100000 in
theorem okX9_follow : MOk mX9_follow 3 := ⟨rfl, (by decide +kernel), ⟨(by decide +kernel), (by decide +kernel)⟩, (by decide +kernel), tblG_in (i := 1346) (by rfl) rfl, iniG9, by decide⟩
set_option maxRecDepth 100000 in
theorem okX9_lastPlaces : MOk mX9_lastPlaces 2 := ⟨rfl, (by decide +kernel), ⟨(by decide +kernel), (by decide +kernel)⟩, (by decide +kernel), tblG_in (i := 1447) (by rfl) rfl, iniG9, by decide⟩
set_option maxRecDepth 100000 in
theorem okX9_getsThere : MOk mX9_getsThere 2 := ⟨rfl, (by decide +kernel), ⟨(by decide +kernel), (by decide +kernel)⟩, (by decide +kernel), tblG_in (i := 1469) (by rfl) rfl, iniG9, by decide⟩
set_option maxRecDepth 100000 in
theorem okX10_init : MOk mX10_init 1 := ⟨rfl, (by decide +kernel), ⟨(by decide +kernel), (by decide +kernel)⟩, (by decide +kernel), tblG_in (i := 226) (by rfl) rfl, iniG10, by decide⟩
set_option maxRecDepth 100000 in
theorem okX10_forget : MOk mX10_forget 0 := ⟨rfl, (by decide +kernel), ⟨(by decide +kernel), (by decide +kernel)⟩, (by decide +kernel), tblG_in (i := 720) (by rfl) rfl, iniG10, by decide⟩
set_option maxRecDepth 100000 in
theorem okX10_isPreparedFor : MOk mX10_isPreparedFor 1 := ⟨rfl, (by decide +kernel), ⟨(by decide +kernel), (by decide +kernel)⟩, (by decide +kernel), tblG_in (i := 772) (by rfl) rfl, iniG10, by decide⟩
set_option maxRecDepth 100000 in
theorem okX10_prepare : MOk mX10_prepare 1 := ⟨rfl, (by decide +kernel), ⟨(by decide +kernel), (by decide +kernel)⟩, (by decide +kernel), tblG_in (i := 768) (by rfl) rfl, iniG10, by decide⟩
set_option maxRecDepth 100000 in
theorem okX10_layWays : MOk mX10_layWays 1 := ⟨rfl, (by decide +kernel), ⟨(by decide +kernel), (by decide +kernel)⟩, (by decide +kernel), tblG_in (i := 786) (by rfl) rfl, iniG10, by decide⟩
set_option maxRecDepth 100000 in
theorem okX10_isThere : MOk mX10_isThere 3 := ⟨rfl, (by decide +kernel), ⟨(by decide +kernel), (by decide +kernel)⟩, (by decide +kernel), tblG_in (i := 776) (by rfl) rfl, iniG10, by decide⟩
set_option maxRecDepth 100000 in
theorem okX10_addWay : MOk mX10_addWay 1 := ⟨rfl, (by decide +kernel), ⟨(by decide +kernel), (by decide +kernel)⟩, (by decide +kernel), tblG_in (i := 796) (by rfl) rfl, iniG10, by decide⟩
set_option maxRecDepth 100000 in
theorem okX10_addMark : MOk mX10_addMark 3 := ⟨rfl, (by decide +kernel), ⟨(by decide +kernel), (by decide +kernel)⟩, (by decide +kernel), tblG_in (i := 800) (by rfl) rfl, iniG10, by decide⟩
set_option maxRecDepth 100000 in
theorem okX10_placesWith : MOk mX10_placesWith 1 := ⟨rfl, (by decide +kernel), ⟨(by decide +kernel), (by decide +kernel)⟩, (by decide +kernel), tblG_in (i := 1178) (by rfl) rfl, iniG10, by decide⟩
set_option maxRecDepth 100000 in
theorem okX10_seenPlaces : MOk mX10_seenPlaces 1 := ⟨rfl, (by decide +kernel), ⟨(by decide +kernel), (by decide +kernel)⟩, (by decide +kernel), tblG_in (i := 1190) (by rfl) rfl, iniG10, by decide⟩
set_option maxRecDepth 100000 in
theorem okX10_look : MOk mX10_look 1 := ⟨rfl, (by decide +kernel), ⟨(by decide +kernel), (by decide +kernel)⟩, (by decide +kernel), tblG_in (i := 804) (by rfl) rfl, iniG10, by decide⟩
set_option maxRecDepth 100000 in
theorem okX10_placesOf : MOk mX10_placesOf 1 := ⟨rfl, (by decide +kernel), ⟨(by decide +kernel), (by decide +kernel)⟩, (by decide +kernel), tblG_in (i := 1452) (by rfl) rfl, iniG10, by decide⟩
set_option maxRecDepth 100000 in
theorem okX11_init : MOk mX11_init 0 := ⟨rfl, (by decide +kernel), ⟨(by decide +kernel), (by decide +kernel)⟩, (by decide +kernel), tblG_in (i := 38) (by rfl) rfl, iniG11, by decide⟩
set_option maxRecDepth 100000 in
theorem okX11_place : MOk mX11_place 2 := ⟨rfl, (by decide +kernel), ⟨(by decide +kernel), (by decide +kernel)⟩, (by decide +kernel), tblG_in (i := 607) (by rfl) rfl, iniG11, by decide⟩
set_option maxRecDepth 100000 in
theorem okX11_way : MOk mX11_way 6 := ⟨rfl, (by decide +kernel), ⟨(by decide +kernel), (by decide +kernel)⟩, (by decide +kernel), tblG_in (i := 689) (by rfl) rfl, iniG11, by decide⟩
set_option maxRecDepth 100000 in
theorem okX11_mark : MOk mX11_mark 5 := ⟨rfl, (by decide +kernel), ⟨(by decide +kernel), (by decide +kernel)⟩, (by decide +kernel), tblG_in (i := 731) (by rfl) rfl, iniG11, by decide⟩
set_option maxRecDepth 100000 in
theorem okX11_ends : MOk mX11_ends 3 := ⟨rfl, (by decide +kernel), ⟨(by decide +kernel), (by decide +kernel)⟩, (by decide +kernel), tblG_in (i := 742) (by rfl) rfl, iniG11, by decide⟩
set_option maxRecDepth 100000 in
theorem okX11_state : MOk mX11_state 2 := ⟨rfl, (by decide +kernel), ⟨(by decide +kernel), (by decide +kernel)⟩, (by decide +kernel), tblG_in (i := 749) (by rfl) rfl, iniG11, by decide⟩
set_option maxRecDepth 100000 in
theorem okX11_out : MOk mX11_out 3 := ⟨rfl, (by decide +kernel), ⟨(by decide +kernel), (by decide +kernel)⟩, (by decide +kernel), tblG_in (i := 760) (by rfl) rfl, iniG11, by decide⟩
set_option maxRecDepth 100000 in
theorem okX11_on : MOk mX11_on 3 := ⟨rfl, (by decide +kernel), ⟨(by decide +kernel), (by decide +kernel)⟩, (by decide +kernel), tblG_in (i := 1102) (by rfl) rfl, iniG11, by decide⟩
set_option maxRecDepth 100000 in
theorem okX11_tongue : MOk mX11_tongue 0 := ⟨rfl, (by decide +kernel), ⟨(by decide +kernel), (by decide +kernel)⟩, (by decide +kernel), tblG_in (i := 571) (by rfl) rfl, iniG11, by decide⟩
set_option maxRecDepth 100000 in
theorem okX11_means : MOk mX11_means 3 := ⟨rfl, (by decide +kernel), ⟨(by decide +kernel), (by decide +kernel)⟩, (by decide +kernel), tblG_in (i := 1128) (by rfl) rfl, iniG11, by decide⟩
set_option maxRecDepth 100000 in
theorem okX11_walker : MOk mX11_walker 5 := ⟨rfl, (by decide +kernel), ⟨(by decide +kernel), (by decide +kernel)⟩, (by decide +kernel), tblG_in (i := 1147) (by rfl) rfl, iniG11, by decide⟩
set_option maxRecDepth 100000 in
theorem okX11_stands : MOk mX11_stands 5 := ⟨rfl, (by decide +kernel), ⟨(by decide +kernel), (by decide +kernel)⟩, (by decide +kernel), tblG_in (i := 1158) (by rfl) rfl, iniG11, by decide⟩
set_option maxRecDepth 100000 in
theorem okX11_worth : MOk mX11_worth 4 := ⟨rfl, (by decide +kernel), ⟨(by decide +kernel), (by decide +kernel)⟩, (by decide +kernel), tblG_in (i := 1203) (by rfl) rfl, iniG11, by decide⟩
set_option maxRecDepth 100000 in
theorem okX11_feed : MOk mX11_feed 5 := ⟨rfl, (by decide +kernel), ⟨(by decide +kernel), (by decide +kernel)⟩, (by decide +kernel), tblG_in (i := 579) (by rfl) rfl, iniG11, by decide⟩
set_option maxRecDepth 100000 in
theorem okX11_telling : MOk mX11_telling 3 := ⟨rfl, (by decide +kernel), ⟨(by decide +kernel), (by decide +kernel)⟩, (by decide +kernel), tblG_in (i := 1224) (by rfl) rfl, iniG11, by decide⟩
set_option maxRecDepth 100000 in
theorem okX11_fault : MOk mX11_fault 1 := ⟨rfl, (by decide +kernel), ⟨(by decide +kernel), (by decide +kernel)⟩, (by decide +kernel), tblG_in (i := 587) (by rfl) rfl, iniG11, by decide⟩
set_option maxRecDepth 100000 in
theorem okX11_sayings : MOk mX11_sayings 1 := ⟨rfl, (by decide +kernel), ⟨(by decide +kernel), (by decide +kernel)⟩, (by decide +kernel), tblG_in (i := 1327) (by rfl) rfl, iniG11, by decide⟩
set_option maxRecDepth 100000 in
theorem okX11_leads : MOk mX11_leads 6 := ⟨rfl, (by decide +kernel), ⟨(by decide +kernel), (by decide +kernel)⟩, (by decide +kernel), tblG_in (i := 1338) (by rfl) rfl, iniG11, by decide⟩
set_option maxRecDepth 100000 in
theorem okX11_holds : MOk mX11_holds 4 := ⟨rfl, (by decide +kernel), ⟨(by decide +kernel), (by decide +kernel)⟩, (by decide +kernel), tblG_in (i := 1436) (by rfl) rfl, iniG11, by decide⟩
set_option maxRecDepth 100000 in
theorem okX11_end : MOk mX11_end 5 := ⟨rfl, (by decide +kernel), ⟨(by decide +kernel), (by decide +kernel)⟩, (by decide +kernel), tblG_in (i := 1443) (by rfl) rfl, iniG11, by decide⟩
set_option maxRecDepth 100000 in
theorem okX11_right : MOk mX11_right 4 := ⟨rfl, (by decide +kernel), ⟨(by decide +kernel), (by decide +kernel)⟩, (by decide +kernel), tblG_in (i := 1465) (by rfl) rfl, iniG11, by decide⟩
set_option maxRecDepth 100000 in
theorem okX11_odds : MOk mX11_odds 5 := ⟨rfl, (by decide +kernel), ⟨(by decide +kernel), (by decide +kernel)⟩, (by decide +kernel), tblG_in (i := 1476) (by rfl) rfl, iniG11, by decide⟩
set_option maxRecDepth 100000 in
theorem okX11_parts : MOk mX11_parts 4 := ⟨rfl, (by decide +kernel), ⟨(by decide +kernel), (by decide +kernel)⟩, (by decide +kernel), tblG_in (i := 1504) (by rfl) rfl, iniG11, by decide⟩
set_option maxRecDepth 100000 in
theorem okX11_hangs : MOk mX11_hangs 5 := ⟨rfl, (by decide +kernel), ⟨(by decide +kernel), (by decide +kernel)⟩, (by decide +kernel), tblG_in (i := 1511) (by rfl) rfl, iniG11, by decide⟩
set_option maxRecDepth 100000 in
theorem okX11_years : MOk mX11_years 4 := ⟨rfl, (by decide +kernel), ⟨(by decide +kernel), (by decide +kernel)⟩, (by decide +kernel), tblG_in (i := 1518) (by rfl) rfl, iniG11, by decide⟩
set_option maxRecDepth 100000 in
theorem okX11_two : MOk mX11_two 7 := ⟨rfl, (by decide +kernel), ⟨(by decide +kernel), (by decide +kernel)⟩, (by decide +kernel), tblG_in (i := 1526) (by rfl) rfl, iniG11, by decide⟩
set_option maxRecDepth 100000 in
theorem okX11_ask : MOk mX11_ask 7 := ⟨rfl, (by decide +kernel), ⟨(by decide +kernel), (by decide +kernel)⟩, (by decide +kernel), tblG_in (i := 1544) (by rfl) rfl, iniG11, by decide⟩
set_option maxRecDepth 100000 in
theorem okX11_lossBehind : MOk mX11_lossBehind 5 := ⟨rfl, (by decide +kernel), ⟨(by decide +kernel), (by decide +kernel)⟩, (by decide +kernel), tblG_in (i := 1549) (by rfl) rfl, iniG11, by decide⟩
set_option maxRecDepth 100000 in
theorem okX11_shortest : MOk mX11_shortest 6 := ⟨rfl, (by decide +kernel), ⟨(by decide +kernel), (by decide +kernel)⟩, (by decide +kernel), tblG_in (i := 1561) (by rfl) rfl, iniG11, by decide⟩
set_option maxRecDepth 100000 in
theorem okX11_went : MOk mX11_went 5 := ⟨rfl, (by decide +kernel), ⟨(by decide +kernel), (by decide +kernel)⟩, (by decide +kernel), tblG_in (i := 1612) (by rfl) rfl, iniG11, by decide⟩
set_option maxRecDepth 100000 in
theorem okX11_learned : MOk mX11_learned 2 := ⟨rfl, (by decide +kernel), ⟨(by decide +kernel), (by decide +kernel)⟩, (by decide +kernel), tblG_in (i := 1623) (by rfl) rfl, iniG11, by decide⟩
set_option maxRecDepth 100000 in
theorem okX11_kindsThatFit : MOk mX11_kindsThatFit 3 := ⟨rfl, (by decide +kernel), ⟨(by decide +kernel), (by decide +kernel)⟩, (by decide +kernel), tblG_in (i := 1627) (by rfl) rfl, iniG11, by decide⟩
set_option maxRecDepth 100000 in
theorem okX11_teller : MOk mX11_teller 0 := ⟨rfl, (by decide +kernel), ⟨(by decide +kernel), (by decide +kernel)⟩, (by decide +kernel), tblG_in (i := 591) (by rfl) rfl, iniG11, by decide⟩
set_option maxRecDepth 100000 in
theorem okX11_told : MOk mX11_told 2 := ⟨rfl, (by decide +kernel), ⟨(by decide +kernel), (by decide +kernel)⟩, (by decide +kernel), tblG_in (i := 1639) (by rfl) rfl, iniG11, by decide⟩
set_option maxRecDepth 100000 in
theorem okX11_tray : MOk mX11_tray 3 := ⟨rfl, (by decide +kernel), ⟨(by decide +kernel), (by decide +kernel)⟩, (by decide +kernel), tblG_in (i := 1646) (by rfl) rfl, iniG11, by decide⟩
set_option maxRecDepth 100000 in
theorem okX11_write : MOk mX11_write 3 := ⟨rfl, (by decide +kernel), ⟨(by decide +kernel), (by decide +kernel)⟩, (by decide +kernel), tblG_in (i := 1664) (by rfl) rfl, iniG11, by decide⟩
set_option maxRecDepth 100000 in
theorem okX11_say : MOk mX11_say 3 := ⟨rfl, (by decide +kernel), ⟨(by decide +kernel), (by decide +kernel)⟩, (by decide +kernel), tblG_in (i := 1709) (by rfl) rfl, iniG11, by decide⟩
set_option maxRecDepth 100000 in
theorem okX11_image : MOk mX11_image 1 := ⟨rfl, (by decide +kernel), ⟨(by decide +kernel), (by decide +kernel)⟩, (by decide +kernel), tblG_in (i := 1727) (by rfl) rfl, iniG11, by decide⟩
set_option maxRecDepth 100000 in
theorem okX11_restore : MOk mX11_restore 1 := ⟨rfl, (by decide +kernel), ⟨(by decide +kernel), (by decide +kernel)⟩, (by decide +kernel), tblG_in (i := 1752) (by rfl) rfl, iniG11, by decide⟩
set_option maxRecDepth 100000 in
theorem okX11_count : MOk mX11_count 1 := ⟨rfl, (by decide +kernel), ⟨(by decide +kernel), (by decide +kernel)⟩, (by decide +kernel), tblG_in (i := 599) (by rfl) rfl, iniG11, by decide⟩
set_option maxRecDepth 100000 in
theorem okX11_needPlace : MOk mX11_needPlace 1 := ⟨rfl, (by decide +kernel), ⟨(by decide +kernel), (by decide +kernel)⟩, (by decide +kernel), tblG_in (i := 693) (by rfl) rfl, iniG11, by decide⟩
set_option maxRecDepth 100000 in
theorem okX11_needState : MOk mX11_needState 1 := ⟨rfl, (by decide +kernel), ⟨(by decide +kernel), (by decide +kernel)⟩, (by decide +kernel), tblG_in (i := 753) (by rfl) rfl, iniG11, by decide⟩
set_option maxRecDepth 100000 in
theorem okX11_needTongue : MOk mX11_needTongue 1 := ⟨rfl, (by decide +kernel), ⟨(by decide +kernel), (by decide +kernel)⟩, (by decide +kernel), tblG_in (i := 1132) (by rfl) rfl, iniG11, by decide⟩
set_option maxRecDepth 100000 in
theorem okX11_needName : MOk mX11_needName 1 := ⟨rfl, (by decide +kernel), ⟨(by decide +kernel), (by decide +kernel)⟩, (by decide +kernel), tblG_in (i := 1136) (by rfl) rfl, iniG11, by decide⟩
set_option maxRecDepth 100000 in
theorem okX11_needWalker : MOk mX11_needWalker 1 := ⟨rfl, (by decide +kernel), ⟨(by decide +kernel), (by decide +kernel)⟩, (by decide +kernel), tblG_in (i := 1162) (by rfl) rfl, iniG11, by decide⟩
set_option maxRecDepth 100000 in
theorem okX11_needTelling : MOk mX11_needTelling 1 := ⟨rfl, (by decide +kernel), ⟨(by decide +kernel), (by decide +kernel)⟩, (by decide +kernel), tblG_in (i := 1331) (by rfl) rfl, iniG11, by decide⟩
set_option maxRecDepth 100000 in
theorem okX11_needTray : MOk mX11_needTray 1 := ⟨rfl, (by decide +kernel), ⟨(by decide +kernel), (by decide +kernel)⟩, (by decide +kernel), tblG_in (i := 1650) (by rfl) rfl, iniG11, by decide⟩
set_option maxRecDepth 100000 in
theorem okX11_needLaid : MOk mX11_needLaid 1 := ⟨rfl, (by decide +kernel), ⟨(by decide +kernel), (by decide +kernel)⟩, (by decide +kernel), tblG_in (i := 1668) (by rfl) rfl, iniG11, by decide⟩
set_option maxRecDepth 100000 in
theorem okX11_needImage : MOk mX11_needImage 1 := ⟨rfl, (by decide +kernel), ⟨(by decide +kernel), (by decide +kernel)⟩, (by decide +kernel), tblG_in (i := 1731) (by rfl) rfl, iniG11, by decide⟩
set_option maxRecDepth 100000 in
theorem okX11_needYear : MOk mX11_needYear 1 := ⟨rfl, (by decide +kernel), ⟨(by decide +kernel), (by decide +kernel)⟩, (by decide +kernel), tblG_in (i := 764) (by rfl) rfl, iniG11, by decide⟩
set_option maxRecDepth 100000 in
theorem okX11_needYears : MOk mX11_needYears 2 := ⟨rfl, (by decide +kernel), ⟨(by decide +kernel), (by decide +kernel)⟩, (by decide +kernel), tblG_in (i := 712) (by rfl) rfl, iniG11, by decide⟩
set_option maxRecDepth 100000 in
theorem okX11_needKinds : MOk mX11_needKinds 1 := ⟨rfl, (by decide +kernel), ⟨(by decide +kernel), (by decide +kernel)⟩, (by decide +kernel), tblG_in (i := 1140) (by rfl) rfl, iniG11, by decide⟩
set_option maxRecDepth 100000 in
theorem okX11_needWalkers : MOk mX11_needWalkers 1 := ⟨rfl, (by decide +kernel), ⟨(by decide +kernel), (by decide +kernel)⟩, (by decide +kernel), tblG_in (i := 1207) (by rfl) rfl, iniG11, by decide⟩
set_option maxRecDepth 100000 in
theorem okX11_needTeller : MOk mX11_needTeller 1 := ⟨rfl, (by decide +kernel), ⟨(by decide +kernel), (by decide +kernel)⟩, (by decide +kernel), tblG_in (i := 1228) (by rfl) rfl, iniG11, by decide⟩
set_option maxRecDepth 100000 in
theorem okX11_needTold : MOk mX11_needTold 4 := ⟨rfl, (by decide +kernel), ⟨(by decide +kernel), (by decide +kernel)⟩, (by decide +kernel), tblG_in (i := 1342) (by rfl) rfl, iniG11, by decide⟩
set_option maxRecDepth 100000 in
theorem okX11_setOut : MOk mX11_setOut 2 := ⟨rfl, (by decide +kernel), ⟨(by decide +kernel), (by decide +kernel)⟩, (by decide +kernel), tblG_in (i := 1166) (by rfl) rfl, iniG11, by decide⟩
set_option maxRecDepth 100000 in
theorem okX11_isIn : MOk mX11_isIn 2 := ⟨rfl, (by decide +kernel), ⟨(by decide +kernel), (by decide +kernel)⟩, (by decide +kernel), tblG_in (i := 792) (by rfl) rfl, iniG11, by decide⟩
set_option maxRecDepth 100000 in
theorem okX11_lowest : MOk mX11_lowest 1 := ⟨rfl, (by decide +kernel), ⟨(by decide +kernel), (by decide +kernel)⟩, (by decide +kernel), tblG_in (i := 1358) (by rfl) rfl, iniG11, by decide⟩
set_option maxRecDepth 100000 in
theorem okX11_nthOf : MOk mX11_nthOf 2 := ⟨rfl, (by decide +kernel), ⟨(by decide +kernel), (by decide +kernel)⟩, (by decide +kernel), tblG_in (i := 1457) (by rfl) rfl, iniG11, by decide⟩
set_option maxRecDepth 100000 in
theorem okX11_wordOf : MOk mX11_wordOf 3 := ⟨rfl, (by decide +kernel), ⟨(by decide +kernel), (by decide +kernel)⟩, (by decide +kernel), tblG_in (i := 1295) (by rfl) rfl, iniG11, by decide⟩
set_option maxRecDepth 100000 in
theorem okX11_listedWord : MOk mX11_listedWord 1 := ⟨rfl, (by decide +kernel), ⟨(by decide +kernel), (by decide +kernel)⟩, (by decide +kernel), tblG_in (i := 1592) (by rfl) rfl, iniG11, by decide⟩
set_option maxRecDepth 100000 in
theorem okX12_init : MOk mX12_init 0 := ⟨rfl, (by decide +kernel), ⟨(by decide +kernel), (by decide +kernel)⟩, (by decide +kernel), tblG_in (i := 1757) (by rfl) rfl, iniG12, by decide⟩
set_option maxRecDepth 100000 in
theorem okX12_thrown : MOk mX12_thrown 0 := ⟨rfl, (by decide +kernel), ⟨(by decide +kernel), (by decide +kernel)⟩, (by decide +kernel), tblG_in (i := 1883) (by rfl) rfl, iniG12, by decide⟩
set_option maxRecDepth 100000 in
theorem okX12_fails : MOk mX12_fails 1 := ⟨rfl, (by decide +kernel), ⟨(by decide +kernel), (by decide +kernel)⟩, (by decide +kernel), tblG_in (i := 1895) (by rfl) rfl, iniG12, by decide⟩
set_option maxRecDepth 100000 in
theorem okX12_fell : MOk mX12_fell 1 := ⟨rfl, (by decide +kernel), ⟨(by decide +kernel), (by decide +kernel)⟩, (by decide +kernel), tblG_in (i := 2037) (by rfl) rfl, iniG12, by decide⟩
set_option maxRecDepth 100000 in
theorem okX12_within : MOk mX12_within 3 := ⟨rfl, (by decide +kernel), ⟨(by decide +kernel), (by decide +kernel)⟩, (by decide +kernel), tblG_in (i := 1891) (by rfl) rfl, iniG12, by decide⟩
set_option maxRecDepth 100000 in
theorem okX12_isYear : MOk mX12_isYear 1 := ⟨rfl, (by decide +kernel), ⟨(by decide +kernel), (by decide +kernel)⟩, (by decide +kernel), tblG_in (i := 1915) (by rfl) rfl, iniG12, by decide⟩
set_option maxRecDepth 100000 in
theorem okX12_is : MOk mX12_is 2 := ⟨rfl, (by decide +kernel), ⟨(by decide +kernel), (by decide +kernel)⟩, (by decide +kernel), tblG_in (i := 1911) (by rfl) rfl, iniG12, by decide⟩
set_option maxRecDepth 100000 in
theorem okX12_isPlace : MOk mX12_isPlace 1 := ⟨rfl, (by decide +kernel), ⟨(by decide +kernel), (by decide +kernel)⟩, (by decide +kernel), tblG_in (i := 1907) (by rfl) rfl, iniG12, by decide⟩
set_option maxRecDepth 100000 in
theorem okX12_isWalker : MOk mX12_isWalker 1 := ⟨rfl, (by decide +kernel), ⟨(by decide +kernel), (by decide +kernel)⟩, (by decide +kernel), tblG_in (i := 2033) (by rfl) rfl, iniG12, by decide⟩
set_option maxRecDepth 100000 in
theorem okX12_isTelling : MOk mX12_isTelling 1 := ⟨rfl, (by decide +kernel), ⟨(by decide +kernel), (by decide +kernel)⟩, (by decide +kernel), tblG_in (i := 2173) (by rfl) rfl, iniG12, by decide⟩
set_option maxRecDepth 100000 in
theorem okX12_isState : MOk mX12_isState 1 := ⟨rfl, (by decide +kernel), ⟨(by decide +kernel), (by decide +kernel)⟩, (by decide +kernel), tblG_in (i := 1940) (by rfl) rfl, iniG12, by decide⟩
set_option maxRecDepth 100000 in
theorem okX12_isName : MOk mX12_isName 1 := ⟨rfl, (by decide +kernel), ⟨(by decide +kernel), (by decide +kernel)⟩, (by decide +kernel), tblG_in (i := 1927) (by rfl) rfl, iniG12, by decide⟩
set_option maxRecDepth 100000 in
theorem okX12_more : MOk mX12_more 1 := ⟨rfl, (by decide +kernel), ⟨(by decide +kernel), (by decide +kernel)⟩, (by decide +kernel), tblG_in (i := 1899) (by rfl) rfl, iniG12, by decide⟩
set_option maxRecDepth 100000 in
theorem okX12_place : MOk mX12_place 2 := ⟨rfl, (by decide +kernel), ⟨(by decide +kernel), (by decide +kernel)⟩, (by decide +kernel), tblG_in (i := 1887) (by rfl) rfl, iniG12, by decide⟩
set_option maxRecDepth 100000 in
theorem okX12_wayOf : MOk mX12_wayOf 2 := ⟨rfl, (by decide +kernel), ⟨(by decide +kernel), (by decide +kernel)⟩, (by decide +kernel), tblG_in (i := 1920) (by rfl) rfl, iniG12, by decide⟩
set_option maxRecDepth 100000 in
theorem okX12_way : MOk mX12_way 6 := ⟨rfl, (by decide +kernel), ⟨(by decide +kernel), (by decide +kernel)⟩, (by decide +kernel), tblG_in (i := 1903) (by rfl) rfl, iniG12, by decide⟩
set_option maxRecDepth 100000 in
theorem okX12_mark : MOk mX12_mark 5 := ⟨rfl, (by decide +kernel), ⟨(by decide +kernel), (by decide +kernel)⟩, (by decide +kernel), tblG_in (i := 1924) (by rfl) rfl, iniG12, by decide⟩
set_option maxRecDepth 100000 in
theorem okX12_ends : MOk mX12_ends 3 := ⟨rfl, (by decide +kernel), ⟨(by decide +kernel), (by decide +kernel)⟩, (by decide +kernel), tblG_in (i := 1932) (by rfl) rfl, iniG12, by decide⟩
set_option maxRecDepth 100000 in
theorem okX12_isThere : MOk mX12_isThere 2 := ⟨rfl, (by decide +kernel), ⟨(by decide +kernel), (by decide +kernel)⟩, (by decide +kernel), tblG_in (i := 1960) (by rfl) rfl, iniG12, by decide⟩
set_option maxRecDepth 100000 in
theorem okX12_endOf : MOk mX12_endOf 2 := ⟨rfl, (by decide +kernel), ⟨(by decide +kernel), (by decide +kernel)⟩, (by decide +kernel), tblG_in (i := 1948) (by rfl) rfl, iniG12, by decide⟩
set_option maxRecDepth 100000 in
theorem okX12_placeOf : MOk mX12_placeOf 1 := ⟨rfl, (by decide +kernel), ⟨(by decide +kernel), (by decide +kernel)⟩, (by decide +kernel), tblG_in (i := 1944) (by rfl) rfl, iniG12, by decide⟩
set_option maxRecDepth 100000 in
theorem okX12_alongX : MOk mX12_alongX 1 := ⟨rfl, (by decide +kernel), ⟨(by decide +kernel), (by decide +kernel)⟩, (by decide +kernel), tblG_in (i := 1968) (by rfl) rfl, iniG12, by decide⟩
set_option maxRecDepth 100000 in
theorem okX12_alongY : MOk mX12_alongY 1 := ⟨rfl, (by decide +kernel), ⟨(by decide +kernel), (by decide +kernel)⟩, (by decide +kernel), tblG_in (i := 1972) (by rfl) rfl, iniG12, by decide⟩
set_option maxRecDepth 100000 in
theorem okX12_state : MOk mX12_state 2 := ⟨rfl, (by decide +kernel), ⟨(by decide +kernel), (by decide +kernel)⟩, (by decide +kernel), tblG_in (i := 1936) (by rfl) rfl, iniG12, by decide⟩
set_option maxRecDepth 100000 in
theorem okX12_isOut : MOk mX12_isOut 3 := ⟨rfl, (by decide +kernel), ⟨(by decide +kernel), (by decide +kernel)⟩, (by decide +kernel), tblG_in (i := 1956) (by rfl) rfl, iniG12, by decide⟩
set_option maxRecDepth 100000 in
theorem okX12_cross : MOk mX12_cross 2 := ⟨rfl, (by decide +kernel), ⟨(by decide +kernel), (by decide +kernel)⟩, (by decide +kernel), tblG_in (i := 1964) (by rfl) rfl, iniG12, by decide⟩
set_option maxRecDepth 100000 in
theorem okX12_isLessTurned : MOk mX12_isLessTurned 3 := ⟨rfl, (by decide +kernel), ⟨(by decide +kernel), (by decide +kernel)⟩, (by decide +kernel), tblG_in (i := 1994) (by rfl) rfl, iniG12, by decide⟩
set_option maxRecDepth 100000 in
theorem okX12_dots : MOk mX12_dots 2 := ⟨rfl, (by decide +kernel), ⟨(by decide +kernel), (by decide +kernel)⟩, (by decide +kernel), tblG_in (i := 1998) (by rfl) rfl, iniG12, by decide⟩
set_option maxRecDepth 100000 in
theorem okX12_sizes : MOk mX12_sizes 1 := ⟨rfl, (by decide +kernel), ⟨(by decide +kernel), (by decide +kernel)⟩, (by decide +kernel), tblG_in (i := 2002) (by rfl) rfl, iniG12, by decide⟩
set_option maxRecDepth 100000 in
theorem okX12_out : MOk mX12_out 3 := ⟨rfl, (by decide +kernel), ⟨(by decide +kernel), (by decide +kernel)⟩, (by decide +kernel), tblG_in (i := 1952) (by rfl) rfl, iniG12, by decide⟩
set_option maxRecDepth 100000 in
theorem okX12_has : MOk mX12_has 3 := ⟨rfl, (by decide +kernel), ⟨(by decide +kernel), (by decide +kernel)⟩, (by decide +kernel), tblG_in (i := 2011) (by rfl) rfl, iniG12, by decide⟩
set_option maxRecDepth 100000 in
theorem okX12_put : MOk mX12_put 3 := ⟨rfl, (by decide +kernel), ⟨(by decide +kernel), (by decide +kernel)⟩, (by decide +kernel), tblG_in (i := 1990) (by rfl) rfl, iniG12, by decide⟩
set_option maxRecDepth 100000 in
theorem okX12_join : MOk mX12_join 4 := ⟨rfl, (by decide +kernel), ⟨(by decide +kernel), (by decide +kernel)⟩, (by decide +kernel), tblG_in (i := 2218) (by rfl) rfl, iniG12, by decide⟩
set_option maxRecDepth 100000 in
theorem okX12_empty : MOk mX12_empty 2 := ⟨rfl, (by decide +kernel), ⟨(by decide +kernel), (by decide +kernel)⟩, (by decide +kernel), tblG_in (i := 2192) (by rfl) rfl, iniG12, by decide⟩
set_option maxRecDepth 100000 in
theorem okX12_copy : MOk mX12_copy 4 := ⟨rfl, (by decide +kernel), ⟨(by decide +kernel), (by decide +kernel)⟩, (by decide +kernel), tblG_in (i := 2211) (by rfl) rfl, iniG12, by decide⟩
set_option maxRecDepth 100000 in
theorem okX12_isNone : MOk mX12_isNone 2 := ⟨rfl, (by decide +kernel), ⟨(by decide +kernel), (by decide +kernel)⟩, (by decide +kernel), tblG_in (i := 2229) (by rfl) rfl, iniG12, by decide⟩
set_option maxRecDepth 100000 in
theorem okX12_sideAt : MOk mX12_sideAt 3 := ⟨rfl, (by decide +kernel), ⟨(by decide +kernel), (by decide +kernel)⟩, (by decide +kernel), tblG_in (i := 1987) (by rfl) rfl, iniG12, by decide⟩
set_option maxRecDepth 100000 in
theorem okX12_lay : MOk mX12_lay 1 := ⟨rfl, (by decide +kernel), ⟨(by decide +kernel), (by decide +kernel)⟩, (by decide +kernel), tblG_in (i := 1980) (by rfl) rfl, iniG12, by decide⟩
set_option maxRecDepth 100000 in
theorem okX12_layOne : MOk mX12_layOne 2 := ⟨rfl, (by decide +kernel), ⟨(by decide +kernel), (by decide +kernel)⟩, (by decide +kernel), tblG_in (i := 1984) (by rfl) rfl, iniG12, by decide⟩
set_option maxRecDepth 100000 in
theorem okX12_sizeOf : MOk mX12_sizeOf 2 := ⟨rfl, (by decide +kernel), ⟨(by decide +kernel), (by decide +kernel)⟩, (by decide +kernel), tblG_in (i := 2008) (by rfl) rfl, iniG12, by decide⟩
set_option maxRecDepth 100000 in
theorem okX12_numberOf : MOk mX12_numberOf 3 := ⟨rfl, (by decide +kernel), ⟨(by decide +kernel), (by decide +kernel)⟩, (by decide +kernel), tblG_in (i := 2005) (by rfl) rfl, iniG12, by decide⟩
set_option maxRecDepth 100000 in
theorem okX12_on : MOk mX12_on 3 := ⟨rfl, (by decide +kernel), ⟨(by decide +kernel), (by decide +kernel)⟩, (by decide +kernel), tblG_in (i := 1976) (by rfl) rfl, iniG12, by decide⟩
set_option maxRecDepth 100000 in
theorem okX12_tongue : MOk mX12_tongue 0 := ⟨rfl, (by decide +kernel), ⟨(by decide +kernel), (by decide +kernel)⟩, (by decide +kernel), tblG_in (i := 2015) (by rfl) rfl, iniG12, by decide⟩
set_option maxRecDepth 100000 in
theorem okX12_means : MOk mX12_means 3 := ⟨rfl, (by decide +kernel), ⟨(by decide +kernel), (by decide +kernel)⟩, (by decide +kernel), tblG_in (i := 2019) (by rfl) rfl, iniG12, by decide⟩
set_option maxRecDepth 100000 in
theorem okX12_walker : MOk mX12_walker 5 := ⟨rfl, (by decide +kernel), ⟨(by decide +kernel), (by decide +kernel)⟩, (by decide +kernel), tblG_in (i := 2024) (by rfl) rfl, iniG12, by decide⟩
set_option maxRecDepth 100000 in
theorem okX12_patience : MOk mX12_patience 1 := ⟨rfl, (by decide +kernel), ⟨(by decide +kernel), (by decide +kernel)⟩, (by decide +kernel), tblG_in (i := 2208) (by rfl) rfl, iniG12, by decide⟩
set_option maxRecDepth 100000 in
theorem okX12_countsPaths : MOk mX12_countsPaths 1 := ⟨rfl, (by decide +kernel), ⟨(by decide +kernel), (by decide +kernel)⟩, (by decide +kernel), tblG_in (i := 2254) (by rfl) rfl, iniG12, by decide⟩
set_option maxRecDepth 100000 in
theorem okX12_kindsOf : MOk mX12_kindsOf 2 := ⟨rfl, (by decide +kernel), ⟨(by decide +kernel), (by decide +kernel)⟩, (by decide +kernel), tblG_in (i := 2049) (by rfl) rfl, iniG12, by decide⟩
set_option maxRecDepth 100000 in
theorem okX12_isMark : MOk mX12_isMark 3 := ⟨rfl, (by decide +kernel), ⟨(by decide +kernel), (by decide +kernel)⟩, (by decide +kernel), tblG_in (i := 2053) (by rfl) rfl, iniG12, by decide⟩
set_option maxRecDepth 100000 in
theorem okX12_standsAt : MOk mX12_standsAt 4 := ⟨rfl, (by decide +kernel), ⟨(by decide +kernel), (by decide +kernel)⟩, (by decide +kernel), tblG_in (i := 2045) (by rfl) rfl, iniG12, by decide⟩
set_option maxRecDepth 100000 in
theorem okX12_isSeenAt : MOk mX12_isSeenAt 4 := ⟨rfl, (by decide +kernel), ⟨(by decide +kernel), (by decide +kernel)⟩, (by decide +kernel), tblG_in (i := 2041) (by rfl) rfl, iniG12, by decide⟩
set_option maxRecDepth 100000 in
theorem okX12_areJoined : MOk mX12_areJoined 3 := ⟨rfl, (by decide +kernel), ⟨(by decide +kernel), (by decide +kernel)⟩, (by decide +kernel), tblG_in (i := 2057) (by rfl) rfl, iniG12, by decide⟩
set_option maxRecDepth 100000 in
theorem okX12_standing : MOk mX12_standing 2 := ⟨rfl, (by decide +kernel), ⟨(by decide +kernel), (by decide +kernel)⟩, (by decide +kernel), tblG_in (i := 2226) (by rfl) rfl, iniG12, by decide⟩
set_option maxRecDepth 100000 in
theorem okX12_stands : MOk mX12_stands 5 := ⟨rfl, (by decide +kernel), ⟨(by decide +kernel), (by decide +kernel)⟩, (by decide +kernel), tblG_in (i := 2029) (by rfl) rfl, iniG12, by decide⟩
set_option maxRecDepth 100000 in
theorem okX12_worth : MOk mX12_worth 4 := ⟨rfl, (by decide +kernel), ⟨(by decide +kernel), (by decide +kernel)⟩, (by decide +kernel), tblG_in (i := 2061) (by rfl) rfl, iniG12, by decide⟩
set_option maxRecDepth 100000 in
theorem okX12_feed : MOk mX12_feed 5 := ⟨rfl, (by decide +kernel), ⟨(by decide +kernel), (by decide +kernel)⟩, (by decide +kernel), tblG_in (i := 2065) (by rfl) rfl, iniG12, by decide⟩
set_option maxRecDepth 100000 in
theorem okX12_see : MOk mX12_see 1 := ⟨rfl, (by decide +kernel), ⟨(by decide +kernel), (by decide +kernel)⟩, (by decide +kernel), tblG_in (i := 2081) (by rfl) rfl, iniG12, by decide⟩
set_option maxRecDepth 100000 in
theorem okX12_isLetter : MOk mX12_isLetter 1 := ⟨rfl, (by decide +kernel), ⟨(by decide +kernel), (by decide +kernel)⟩, (by decide +kernel), tblG_in (i := 2077) (by rfl) rfl, iniG12, by decide⟩
set_option maxRecDepth 100000 in
theorem okX12_isDigit : MOk mX12_isDigit 1 := ⟨rfl, (by decide +kernel), ⟨(by decide +kernel), (by decide +kernel)⟩, (by decide +kernel), tblG_in (i := 2084) (by rfl) rfl, iniG12, by decide⟩
set_option maxRecDepth 100000 in
theorem okX12_next : MOk mX12_next 0 := ⟨rfl, (by decide +kernel), ⟨(by decide +kernel), (by decide +kernel)⟩, (by decide +kernel), tblG_in (i := 2074) (by rfl) rfl, iniG12, by decide⟩
set_option maxRecDepth 100000 in
theorem okX12_wrong : MOk mX12_wrong 1 := ⟨rfl, (by decide +kernel), ⟨(by decide +kernel), (by decide +kernel)⟩, (by decide +kernel), tblG_in (i := 2115) (by rfl) rfl, iniG12, by decide⟩
set_option maxRecDepth 100000 in
theorem okX12_isWord : MOk mX12_isWord 1 := ⟨rfl, (by decide +kernel), ⟨(by decide +kernel), (by decide +kernel)⟩, (by decide +kernel), tblG_in (i := 2097) (by rfl) rfl, iniG12, by decide⟩
set_option maxRecDepth 100000 in
theorem okX12_nameNow : MOk mX12_nameNow 0 := ⟨rfl, (by decide +kernel), ⟨(by decide +kernel), (by decide +kernel)⟩, (by decide +kernel), tblG_in (i := 2136) (by rfl) rfl, iniG12, by decide⟩
set_option maxRecDepth 100000 in
theorem okX12_readName : MOk mX12_readName 0 := ⟨rfl, (by decide +kernel), ⟨(by decide +kernel), (by decide +kernel)⟩, (by decide +kernel), tblG_in (i := 2132) (by rfl) rfl, iniG12, by decide⟩
set_option maxRecDepth 100000 in
theorem okX12_readNumber : MOk mX12_readNumber 0 := ⟨rfl, (by decide +kernel), ⟨(by decide +kernel), (by decide +kernel)⟩, (by decide +kernel), tblG_in (i := 2127) (by rfl) rfl, iniG12, by decide⟩
set_option maxRecDepth 100000 in
theorem okX12_sideNow : MOk mX12_sideNow 0 := ⟨rfl, (by decide +kernel), ⟨(by decide +kernel), (by decide +kernel)⟩, (by decide +kernel), tblG_in (i := 2109) (by rfl) rfl, iniG12, by decide⟩
set_option maxRecDepth 100000 in
theorem okX12_wordAt : MOk mX12_wordAt 2 := ⟨rfl, (by decide +kernel), ⟨(by decide +kernel), (by decide +kernel)⟩, (by decide +kernel), tblG_in (i := 2155) (by rfl) rfl, iniG12, by decide⟩
set_option maxRecDepth 100000 in
theorem okX12_lays : MOk mX12_lays 4 := ⟨rfl, (by decide +kernel), ⟨(by decide +kernel), (by decide +kernel)⟩, (by decide +kernel), tblG_in (i := 2152) (by rfl) rfl, iniG12, by decide⟩
set_option maxRecDepth 100000 in
theorem okX12_isBegun : MOk mX12_isBegun 0 := ⟨rfl, (by decide +kernel), ⟨(by decide +kernel), (by decide +kernel)⟩, (by decide +kernel), tblG_in (i := 2092) (by rfl) rfl, iniG12, by decide⟩
set_option maxRecDepth 100000 in
theorem okX12_readWord : MOk mX12_readWord 1 := ⟨rfl, (by decide +kernel), ⟨(by decide +kernel), (by decide +kernel)⟩, (by decide +kernel), tblG_in (i := 2119) (by rfl) rfl, iniG12, by decide⟩
set_option maxRecDepth 100000 in
theorem okX12_readNth : MOk mX12_readNth 1 := ⟨rfl, (by decide +kernel), ⟨(by decide +kernel), (by decide +kernel)⟩, (by decide +kernel), tblG_in (i := 2123) (by rfl) rfl, iniG12, by decide⟩
set_option maxRecDepth 100000 in
theorem okX12_readSaying : MOk mX12_readSaying 1 := ⟨rfl, (by decide +kernel), ⟨(by decide +kernel), (by decide +kernel)⟩, (by decide +kernel), tblG_in (i := 2088) (by rfl) rfl, iniG12, by decide⟩
set_option maxRecDepth 100000 in
theorem okX12_keeps : MOk mX12_keeps 3 := ⟨rfl, (by decide +kernel), ⟨(by decide +kernel), (by decide +kernel)⟩, (by decide +kernel), tblG_in (i := 2161) (by rfl) rfl, iniG12, by decide⟩
set_option maxRecDepth 100000 in
theorem okX12_telling : MOk mX12_telling 3 := ⟨rfl, (by decide +kernel), ⟨(by decide +kernel), (by decide +kernel)⟩, (by decide +kernel), tblG_in (i := 2069) (by rfl) rfl, iniG12, by decide⟩
set_option maxRecDepth 100000 in
theorem okX12_fault : MOk mX12_fault 1 := ⟨rfl, (by decide +kernel), ⟨(by decide +kernel), (by decide +kernel)⟩, (by decide +kernel), tblG_in (i := 2165) (by rfl) rfl, iniG12, by decide⟩
set_option maxRecDepth 100000 in
theorem okX12_sayingsOf : MOk mX12_sayingsOf 1 := ⟨rfl, (by decide +kernel), ⟨(by decide +kernel), (by decide +kernel)⟩, (by decide +kernel), tblG_in (i := 2177) (by rfl) rfl, iniG12, by decide⟩
set_option maxRecDepth 100000 in
theorem okX12_goalOf : MOk mX12_goalOf 1 := ⟨rfl, (by decide +kernel), ⟨(by decide +kernel), (by decide +kernel)⟩, (by decide +kernel), tblG_in (i := 2278) (by rfl) rfl, iniG12, by decide⟩
set_option maxRecDepth 100000 in
theorem okX12_sayings : MOk mX12_sayings 1 := ⟨rfl, (by decide +kernel), ⟨(by decide +kernel), (by decide +kernel)⟩, (by decide +kernel), tblG_in (i := 2169) (by rfl) rfl, iniG12, by decide⟩
set_option maxRecDepth 100000 in
theorem okX12_goOn : MOk mX12_goOn 4 := ⟨rfl, (by decide +kernel), ⟨(by decide +kernel), (by decide +kernel)⟩, (by decide +kernel), tblG_in (i := 2215) (by rfl) rfl, iniG12, by decide⟩
set_option maxRecDepth 100000 in
theorem okX12_word : MOk mX12_word 8 := ⟨rfl, (by decide +kernel), ⟨(by decide +kernel), (by decide +kernel)⟩, (by decide +kernel), tblG_in (i := 2200) (by rfl) rfl, iniG12, by decide⟩
set_option maxRecDepth 100000 in
theorem okX12_sideOf : MOk mX12_sideOf 2 := ⟨rfl, (by decide +kernel), ⟨(by decide +kernel), (by decide +kernel)⟩, (by decide +kernel), tblG_in (i := 2246) (by rfl) rfl, iniG12, by decide⟩
set_option maxRecDepth 100000 in
theorem okX12_onTimes : MOk mX12_onTimes 6 := ⟨rfl, (by decide +kernel), ⟨(by decide +kernel), (by decide +kernel)⟩, (by decide +kernel), tblG_in (i := 2204) (by rfl) rfl, iniG12, by decide⟩
set_option maxRecDepth 100000 in
theorem okX12_until : MOk mX12_until 7 := ⟨rfl, (by decide +kernel), ⟨(by decide +kernel), (by decide +kernel)⟩, (by decide +kernel), tblG_in (i := 2222) (by rfl) rfl, iniG12, by decide⟩
set_option maxRecDepth 100000 in
theorem okX12_isOver : MOk mX12_isOver 3 := ⟨rfl, (by decide +kernel), ⟨(by decide +kernel), (by decide +kernel)⟩, (by decide +kernel), tblG_in (i := 2242) (by rfl) rfl, iniG12, by decide⟩
set_option maxRecDepth 100000 in
theorem okX12_far : MOk mX12_far 6 := ⟨rfl, (by decide +kernel), ⟨(by decide +kernel), (by decide +kernel)⟩, (by decide +kernel), tblG_in (i := 2234) (by rfl) rfl, iniG12, by decide⟩
set_option maxRecDepth 100000 in
theorem okX12_goOnFar : MOk mX12_goOnFar 2 := ⟨rfl, (by decide +kernel), ⟨(by decide +kernel), (by decide +kernel)⟩, (by decide +kernel), tblG_in (i := 2238) (by rfl) rfl, iniG12, by decide⟩
set_option maxRecDepth 100000 in
theorem okX12_nth : MOk mX12_nth 8 := ⟨rfl, (by decide +kernel), ⟨(by decide +kernel), (by decide +kernel)⟩, (by decide +kernel), tblG_in (i := 2250) (by rfl) rfl, iniG12, by decide⟩
set_option maxRecDepth 100000 in
theorem okX12_says : MOk mX12_says 3 := ⟨rfl, (by decide +kernel), ⟨(by decide +kernel), (by decide +kernel)⟩, (by decide +kernel), tblG_in (i := 2196) (by rfl) rfl, iniG12, by decide⟩
set_option maxRecDepth 100000 in
theorem okX12_goes : MOk mX12_goes 5 := ⟨rfl, (by decide +kernel), ⟨(by decide +kernel), (by decide +kernel)⟩, (by decide +kernel), tblG_in (i := 2189) (by rfl) rfl, iniG12, by decide⟩
set_option maxRecDepth 100000 in
theorem okX12_placesOf : MOk mX12_placesOf 1 := ⟨rfl, (by decide +kernel), ⟨(by decide +kernel), (by decide +kernel)⟩, (by decide +kernel), tblG_in (i := 2266) (by rfl) rfl, iniG12, by decide⟩
set_option maxRecDepth 100000 in
theorem okX12_isRight : MOk mX12_isRight 4 := ⟨rfl, (by decide +kernel), ⟨(by decide +kernel), (by decide +kernel)⟩, (by decide +kernel), tblG_in (i := 2274) (by rfl) rfl, iniG12, by decide⟩
set_option maxRecDepth 100000 in
theorem okX12_areThere : MOk mX12_areThere 3 := ⟨rfl, (by decide +kernel), ⟨(by decide +kernel), (by decide +kernel)⟩, (by decide +kernel), tblG_in (i := 2185) (by rfl) rfl, iniG12, by decide⟩
set_option maxRecDepth 100000 in
theorem okX12_leads : MOk mX12_leads 6 := ⟨rfl, (by decide +kernel), ⟨(by decide +kernel), (by decide +kernel)⟩, (by decide +kernel), tblG_in (i := 2181) (by rfl) rfl, iniG12, by decide⟩
set_option maxRecDepth 100000 in
theorem okX12_holds : MOk mX12_holds 4 := ⟨rfl, (by decide +kernel), ⟨(by decide +kernel), (by decide +kernel)⟩, (by decide +kernel), tblG_in (i := 2258) (by rfl) rfl, iniG12, by decide⟩
set_option maxRecDepth 100000 in
theorem okX12_end : MOk mX12_end 5 := ⟨rfl, (by decide +kernel), ⟨(by decide +kernel), (by decide +kernel)⟩, (by decide +kernel), tblG_in (i := 2262) (by rfl) rfl, iniG12, by decide⟩
set_option maxRecDepth 100000 in
theorem okX12_right : MOk mX12_right 4 := ⟨rfl, (by decide +kernel), ⟨(by decide +kernel), (by decide +kernel)⟩, (by decide +kernel), tblG_in (i := 2270) (by rfl) rfl, iniG12, by decide⟩
set_option maxRecDepth 100000 in
theorem okX12_parted : MOk mX12_parted 3 := ⟨rfl, (by decide +kernel), ⟨(by decide +kernel), (by decide +kernel)⟩, (by decide +kernel), tblG_in (i := 2295) (by rfl) rfl, iniG12, by decide⟩
set_option maxRecDepth 100000 in
theorem okX12_oddsOn : MOk mX12_oddsOn 3 := ⟨rfl, (by decide +kernel), ⟨(by decide +kernel), (by decide +kernel)⟩, (by decide +kernel), tblG_in (i := 2291) (by rfl) rfl, iniG12, by decide⟩
set_option maxRecDepth 100000 in
theorem okX12_shareAt : MOk mX12_shareAt 1 := ⟨rfl, (by decide +kernel), ⟨(by decide +kernel), (by decide +kernel)⟩, (by decide +kernel), tblG_in (i := 2299) (by rfl) rfl, iniG12, by decide⟩
set_option maxRecDepth 100000 in
theorem okX12_oddsFrom : MOk mX12_oddsFrom 4 := ⟨rfl, (by decide +kernel), ⟨(by decide +kernel), (by decide +kernel)⟩, (by decide +kernel), tblG_in (i := 2286) (by rfl) rfl, iniG12, by decide⟩
set_option maxRecDepth 100000 in
theorem okX12_odds : MOk mX12_odds 5 := ⟨rfl, (by decide +kernel), ⟨(by decide +kernel), (by decide +kernel)⟩, (by decide +kernel), tblG_in (i := 2282) (by rfl) rfl, iniG12, by decide⟩
set_option maxRecDepth 100000 in
theorem okX12_parts : MOk mX12_parts 4 := ⟨rfl, (by decide +kernel), ⟨(by decide +kernel), (by decide +kernel)⟩, (by decide +kernel), tblG_in (i := 2303) (by rfl) rfl, iniG12, by decide⟩
set_option maxRecDepth 100000 in
theorem okX12_hangs : MOk mX12_hangs 5 := ⟨rfl, (by decide +kernel), ⟨(by decide +kernel), (by decide +kernel)⟩, (by decide +kernel), tblG_in (i := 2307) (by rfl) rfl, iniG12, by decide⟩
set_option maxRecDepth 100000 in
theorem okX12_years : MOk mX12_years 4 := ⟨rfl, (by decide +kernel), ⟨(by decide +kernel), (by decide +kernel)⟩, (by decide +kernel), tblG_in (i := 2311) (by rfl) rfl, iniG12, by decide⟩
set_option maxRecDepth 100000 in
theorem okX12_two : MOk mX12_two 7 := ⟨rfl, (by decide +kernel), ⟨(by decide +kernel), (by decide +kernel)⟩, (by decide +kernel), tblG_in (i := 2315) (by rfl) rfl, iniG12, by decide⟩
set_option maxRecDepth 100000 in
theorem okX12_ask : MOk mX12_ask 7 := ⟨rfl, (by decide +kernel), ⟨(by decide +kernel), (by decide +kernel)⟩, (by decide +kernel), tblG_in (i := 2320) (by rfl) rfl, iniG12, by decide⟩
set_option maxRecDepth 100000 in
theorem okX12_tries : MOk mX12_tries 2 := ⟨rfl, (by decide +kernel), ⟨(by decide +kernel), (by decide +kernel)⟩, (by decide +kernel), tblG_in (i := 2337) (by rfl) rfl, iniG12, by decide⟩
set_option maxRecDepth 100000 in
theorem okX12_areAll : MOk mX12_areAll 1 := ⟨rfl, (by decide +kernel), ⟨(by decide +kernel), (by decide +kernel)⟩, (by decide +kernel), tblG_in (i := 2333) (by rfl) rfl, iniG12, by decide⟩
set_option maxRecDepth 100000 in
theorem okX12_seek : MOk mX12_seek 2 := ⟨rfl, (by decide +kernel), ⟨(by decide +kernel), (by decide +kernel)⟩, (by decide +kernel), tblG_in (i := 2329) (by rfl) rfl, iniG12, by decide⟩
set_option maxRecDepth 100000 in
theorem okX12_shortest : MOk mX12_shortest 6 := ⟨rfl, (by decide +kernel), ⟨(by decide +kernel), (by decide +kernel)⟩, (by decide +kernel), tblG_in (i := 2324) (by rfl) rfl, iniG12, by decide⟩
set_option maxRecDepth 100000 in
theorem okX12_went : MOk mX12_went 5 := ⟨rfl, (by decide +kernel), ⟨(by decide +kernel), (by decide +kernel)⟩, (by decide +kernel), tblG_in (i := 2341) (by rfl) rfl, iniG12, by decide⟩
set_option maxRecDepth 100000 in
theorem okX12_isAsWent : MOk mX12_isAsWent 1 := ⟨rfl, (by decide +kernel), ⟨(by decide +kernel), (by decide +kernel)⟩, (by decide +kernel), tblG_in (i := 2349) (by rfl) rfl, iniG12, by decide⟩
set_option maxRecDepth 100000 in
theorem okX12_learned : MOk mX12_learned 2 := ⟨rfl, (by decide +kernel), ⟨(by decide +kernel), (by decide +kernel)⟩, (by decide +kernel), tblG_in (i := 2345) (by rfl) rfl, iniG12, by decide⟩
set_option maxRecDepth 100000 in
theorem okX12_records : MOk mX12_records 2 := ⟨rfl, (by decide +kernel), ⟨(by decide +kernel), (by decide +kernel)⟩, (by decide +kernel), tblG_in (i := 2357) (by rfl) rfl, iniG12, by decide⟩
set_option maxRecDepth 100000 in
theorem okX12_teller : MOk mX12_teller 0 := ⟨rfl, (by decide +kernel), ⟨(by decide +kernel), (by decide +kernel)⟩, (by decide +kernel), tblG_in (i := 2353) (by rfl) rfl, iniG12, by decide⟩
set_option maxRecDepth 100000 in
theorem okX12_told : MOk mX12_told 2 := ⟨rfl, (by decide +kernel), ⟨(by decide +kernel), (by decide +kernel)⟩, (by decide +kernel), tblG_in (i := 2361) (by rfl) rfl, iniG12, by decide⟩
set_option maxRecDepth 100000 in
theorem okX12_isTray : MOk mX12_isTray 1 := ⟨rfl, (by decide +kernel), ⟨(by decide +kernel), (by decide +kernel)⟩, (by decide +kernel), tblG_in (i := 2368) (by rfl) rfl, iniG12, by decide⟩
set_option maxRecDepth 100000 in
theorem okX12_tray : MOk mX12_tray 3 := ⟨rfl, (by decide +kernel), ⟨(by decide +kernel), (by decide +kernel)⟩, (by decide +kernel), tblG_in (i := 2365) (by rfl) rfl, iniG12, by decide⟩
set_option maxRecDepth 100000 in
theorem okX12_write : MOk mX12_write 3 := ⟨rfl, (by decide +kernel), ⟨(by decide +kernel), (by decide +kernel)⟩, (by decide +kernel), tblG_in (i := 2373) (by rfl) rfl, iniG12, by decide⟩
set_option maxRecDepth 100000 in
theorem okX12_say : MOk mX12_say 3 := ⟨rfl, (by decide +kernel), ⟨(by decide +kernel), (by decide +kernel)⟩, (by decide +kernel), tblG_in (i := 2377) (by rfl) rfl, iniG12, by decide⟩
set_option maxRecDepth 100000 in
theorem okX12_image : MOk mX12_image 1 := ⟨rfl, (by decide +kernel), ⟨(by decide +kernel), (by decide +kernel)⟩, (by decide +kernel), tblG_in (i := 2382) (by rfl) rfl, iniG12, by decide⟩
set_option maxRecDepth 100000 in
theorem okX12_restore : MOk mX12_restore 1 := ⟨rfl, (by decide +kernel), ⟨(by decide +kernel), (by decide +kernel)⟩, (by decide +kernel), tblG_in (i := 2386) (by rfl) rfl, iniG12, by decide⟩
set_option maxRecDepth 100000 in
theorem okX12_count : MOk mX12_count 1 := ⟨rfl, (by decide +kernel), ⟨(by decide +kernel), (by decide +kernel)⟩, (by decide +kernel), tblG_in (i := 2390) (by rfl) rfl, iniG12, by decide⟩
set_option maxRecDepth 100000 in
theorem okL_place : MOk mL_place 4 := ⟨rfl, (by decide +kernel), ⟨(by decide +kernel), (by decide +kernel)⟩, (by decide +kernel), tblG_in (i := 602) (by rfl) rfl, iniG13, by decide⟩
set_option maxRecDepth 100000 in
theorem okL_way : MOk mL_way 8 := ⟨rfl, (by decide +kernel), ⟨(by decide +kernel), (by decide +kernel)⟩, (by decide +kernel), tblG_in (i := 684) (by rfl) rfl, iniG13, by decide⟩
set_option maxRecDepth 100000 in
theorem okL_mark : MOk mL_mark 7 := ⟨rfl, (by decide +kernel), ⟨(by decide +kernel), (by decide +kernel)⟩, (by decide +kernel), tblG_in (i := 727) (by rfl) rfl, iniG13, by decide⟩
set_option maxRecDepth 100000 in
theorem okL_ends : MOk mL_ends 5 := ⟨rfl, (by decide +kernel), ⟨(by decide +kernel), (by decide +kernel)⟩, (by decide +kernel), tblG_in (i := 738) (by rfl) rfl, iniG13, by decide⟩
set_option maxRecDepth 100000 in
theorem okL_state : MOk mL_state 4 := ⟨rfl, (by decide +kernel), ⟨(by decide +kernel), (by decide +kernel)⟩, (by decide +kernel), tblG_in (i := 745) (by rfl) rfl, iniG13, by decide⟩
set_option maxRecDepth 100000 in
theorem okL_out : MOk mL_out 5 := ⟨rfl, (by decide +kernel), ⟨(by decide +kernel), (by decide +kernel)⟩, (by decide +kernel), tblG_in (i := 756) (by rfl) rfl, iniG13, by decide⟩
set_option maxRecDepth 100000 in
theorem okL_on : MOk mL_on 5 := ⟨rfl, (by decide +kernel), ⟨(by decide +kernel), (by decide +kernel)⟩, (by decide +kernel), tblG_in (i := 1098) (by rfl) rfl, iniG13, by decide⟩
set_option maxRecDepth 100000 in
theorem okL_means : MOk mL_means 5 := ⟨rfl, (by decide +kernel), ⟨(by decide +kernel), (by decide +kernel)⟩, (by decide +kernel), tblG_in (i := 1124) (by rfl) rfl, iniG13, by decide⟩
set_option maxRecDepth 100000 in
theorem okL_walker : MOk mL_walker 7 := ⟨rfl, (by decide +kernel), ⟨(by decide +kernel), (by decide +kernel)⟩, (by decide +kernel), tblG_in (i := 1143) (by rfl) rfl, iniG13, by decide⟩
set_option maxRecDepth 100000 in
theorem okL_stands : MOk mL_stands 7 := ⟨rfl, (by decide +kernel), ⟨(by decide +kernel), (by decide +kernel)⟩, (by decide +kernel), tblG_in (i := 1154) (by rfl) rfl, iniG13, by decide⟩
set_option maxRecDepth 100000 in
theorem okL_worth : MOk mL_worth 6 := ⟨rfl, (by decide +kernel), ⟨(by decide +kernel), (by decide +kernel)⟩, (by decide +kernel), tblG_in (i := 1199) (by rfl) rfl, iniG13, by decide⟩
set_option maxRecDepth 100000 in
theorem okL_telling : MOk mL_telling 5 := ⟨rfl, (by decide +kernel), ⟨(by decide +kernel), (by decide +kernel)⟩, (by decide +kernel), tblG_in (i := 1220) (by rfl) rfl, iniG13, by decide⟩
set_option maxRecDepth 100000 in
theorem okL_sayings : MOk mL_sayings 3 := ⟨rfl, (by decide +kernel), ⟨(by decide +kernel), (by decide +kernel)⟩, (by decide +kernel), tblG_in (i := 1323) (by rfl) rfl, iniG13, by decide⟩
set_option maxRecDepth 100000 in
theorem okL_leads : MOk mL_leads 8 := ⟨rfl, (by decide +kernel), ⟨(by decide +kernel), (by decide +kernel)⟩, (by decide +kernel), tblG_in (i := 1334) (by rfl) rfl, iniG13, by decide⟩
set_option maxRecDepth 100000 in
theorem okL_holds : MOk mL_holds 6 := ⟨rfl, (by decide +kernel), ⟨(by decide +kernel), (by decide +kernel)⟩, (by decide +kernel), tblG_in (i := 1432) (by rfl) rfl, iniG13, by decide⟩
set_option maxRecDepth 100000 in
theorem okL_end : MOk mL_end 7 := ⟨rfl, (by decide +kernel), ⟨(by decide +kernel), (by decide +kernel)⟩, (by decide +kernel), tblG_in (i := 1439) (by rfl) rfl, iniG13, by decide⟩
set_option maxRecDepth 100000 in
theorem okL_right : MOk mL_right 6 := ⟨rfl, (by decide +kernel), ⟨(by decide +kernel), (by decide +kernel)⟩, (by decide +kernel), tblG_in (i := 1461) (by rfl) rfl, iniG13, by decide⟩
set_option maxRecDepth 100000 in
theorem okL_odds : MOk mL_odds 7 := ⟨rfl, (by decide +kernel), ⟨(by decide +kernel), (by decide +kernel)⟩, (by decide +kernel), tblG_in (i := 1472) (by rfl) rfl, iniG13, by decide⟩
set_option maxRecDepth 100000 in
theorem okL_parts : MOk mL_parts 6 := ⟨rfl, (by decide +kernel), ⟨(by decide +kernel), (by decide +kernel)⟩, (by decide +kernel), tblG_in (i := 1500) (by rfl) rfl, iniG13, by decide⟩
set_option maxRecDepth 100000 in
theorem okL_hangs : MOk mL_hangs 7 := ⟨rfl, (by decide +kernel), ⟨(by decide +kernel), (by decide +kernel)⟩, (by decide +kernel), tblG_in (i := 1507) (by rfl) rfl, iniG13, by decide⟩
set_option maxRecDepth 100000 in
theorem okL_years : MOk mL_years 6 := ⟨rfl, (by decide +kernel), ⟨(by decide +kernel), (by decide +kernel)⟩, (by decide +kernel), tblG_in (i := 1514) (by rfl) rfl, iniG13, by decide⟩
set_option maxRecDepth 100000 in
theorem okL_two : MOk mL_two 9 := ⟨rfl, (by decide +kernel), ⟨(by decide +kernel), (by decide +kernel)⟩, (by decide +kernel), tblG_in (i := 1522) (by rfl) rfl, iniG13, by decide⟩
set_option maxRecDepth 100000 in
theorem okL_ask : MOk mL_ask 9 := ⟨rfl, (by decide +kernel), ⟨(by decide +kernel), (by decide +kernel)⟩, (by decide +kernel), tblG_in (i := 1540) (by rfl) rfl, iniG13, by decide⟩
set_option maxRecDepth 100000 in
theorem okL_shortest : MOk mL_shortest 8 := ⟨rfl, (by decide +kernel), ⟨(by decide +kernel), (by decide +kernel)⟩, (by decide +kernel), tblG_in (i := 1557) (by rfl) rfl, iniG13, by decide⟩
set_option maxRecDepth 100000 in
theorem okL_went : MOk mL_went 7 := ⟨rfl, (by decide +kernel), ⟨(by decide +kernel), (by decide +kernel)⟩, (by decide +kernel), tblG_in (i := 1608) (by rfl) rfl, iniG13, by decide⟩
set_option maxRecDepth 100000 in
theorem okL_learned : MOk mL_learned 4 := ⟨rfl, (by decide +kernel), ⟨(by decide +kernel), (by decide +kernel)⟩, (by decide +kernel), tblG_in (i := 1619) (by rfl) rfl, iniG13, by decide⟩
set_option maxRecDepth 100000 in
theorem okL_told : MOk mL_told 4 := ⟨rfl, (by decide +kernel), ⟨(by decide +kernel), (by decide +kernel)⟩, (by decide +kernel), tblG_in (i := 1635) (by rfl) rfl, iniG13, by decide⟩
set_option maxRecDepth 100000 in
theorem okL_tray : MOk mL_tray 4 := ⟨rfl, (by decide +kernel), ⟨(by decide +kernel), (by decide +kernel)⟩, (by decide +kernel), tblG_in (i := 1642) (by rfl) rfl, iniG13, by decide⟩
set_option maxRecDepth 100000 in
theorem okL_write : MOk mL_write 5 := ⟨rfl, (by decide +kernel), ⟨(by decide +kernel), (by decide +kernel)⟩, (by decide +kernel), tblG_in (i := 1658) (by rfl) rfl, iniG13, by decide⟩
set_option maxRecDepth 100000 in
theorem okL_say : MOk mL_say 5 := ⟨rfl, (by decide +kernel), ⟨(by decide +kernel), (by decide +kernel)⟩, (by decide +kernel), tblG_in (i := 1705) (by rfl) rfl, iniG13, by decide⟩
set_option maxRecDepth 100000 in
theorem okL_image : MOk mL_image 2 := ⟨rfl, (by decide +kernel), ⟨(by decide +kernel), (by decide +kernel)⟩, (by decide +kernel), tblG_in (i := 1723) (by rfl) rfl, iniG13, by decide⟩
set_option maxRecDepth 100000 in
theorem okL_restore : MOk mL_restore 2 := ⟨rfl, (by decide +kernel), ⟨(by decide +kernel), (by decide +kernel)⟩, (by decide +kernel), tblG_in (i := 1748) (by rfl) rfl, iniG13, by decide⟩
