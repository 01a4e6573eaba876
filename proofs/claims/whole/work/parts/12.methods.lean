theorem q_tb1 {w : Cond} (h : w ∈ tables_1_1) (hg : goodWord w = true) : w ∈ q_TB := List.mem_filter.mpr ⟨List.mem_append_right _ (show w ∈ tables_1_1 ++ (tables_1_2 ++ (tables_1_3 ++ (tables_1_4 ++ (tables_1_5 ++ (tables_1_6 ++ (tables_1_7 ++ (tables_1_8 ++ (tables_1_9 ++ tables_1_10)))))))) from List.mem_append_left _ h), hg⟩
theorem q_tb2 {w : Cond} (h : w ∈ tables_1_2) (hg : goodWord w = true) : w ∈ q_TB := List.mem_filter.mpr ⟨List.mem_append_right _ (show w ∈ tables_1_1 ++ (tables_1_2 ++ (tables_1_3 ++ (tables_1_4 ++ (tables_1_5 ++ (tables_1_6 ++ (tables_1_7 ++ (tables_1_8 ++ (tables_1_9 ++ tables_1_10)))))))) from List.mem_append_right _ (List.mem_append_left _ h)), hg⟩
theorem q_tb3 {w : Cond} (h : w ∈ tables_1_3) (hg : goodWord w = true) : w ∈ q_TB := List.mem_filter.mpr ⟨List.mem_append_right _ (show w ∈ tables_1_1 ++ (tables_1_2 ++ (tables_1_3 ++ (tables_1_4 ++ (tables_1_5 ++ (tables_1_6 ++ (tables_1_7 ++ (tables_1_8 ++ (tables_1_9 ++ tables_1_10)))))))) from List.mem_append_right _ (List.mem_append_right _ (List.mem_append_left _ h))), hg⟩
theorem q_tb4 {w : Cond} (h : w ∈ tables_1_4) (hg : goodWord w = true) : w ∈ q_TB := List.mem_filter.mpr ⟨List.mem_append_right _ (show w ∈ tables_1_1 ++ (tables_1_2 ++ (tables_1_3 ++ (tables_1_4 ++ (tables_1_5 ++ (tables_1_6 ++ (tables_1_7 ++ (tables_1_8 ++ (tables_1_9 ++ tables_1_10)))))))) from List.mem_append_right _ (List.mem_append_right _ (List.mem_append_right _ (List.mem_append_left _ h)))), hg⟩
theorem q_tb5 {w : Cond} (h : w ∈ tables_1_5) (hg : goodWord w = true) : w ∈ q_TB := List.mem_filter.mpr ⟨List.mem_append_right _ (show w ∈ tables_1_1 ++ (tables_1_2 ++ (tables_1_3 ++ (tables_1_4 ++ (tables_1_5 ++ (tables_1_6 ++ (tables_1_7 ++ (tables_1_8 ++ (tables_1_9 ++ tables_1_10)))))))) from List.mem_append_right _ (List.mem_append_right _ (List.mem_append_right _ (List.mem_append_right _ (List.mem_append_left _ h))))), hg⟩
theorem q_tb6 {w : Cond} (h : w ∈ tables_1_6) (hg : goodWord w = true) : w ∈ q_TB := List.mem_filter.mpr ⟨List.mem_append_right _ (show w ∈ tables_1_1 ++ (tables_1_2 ++ (tables_1_3 ++ (tables_1_4 ++ (tables_1_5 ++ (tables_1_6 ++ (tables_1_7 ++ (tables_1_8 ++ (tables_1_9 ++ tables_1_10)))))))) from List.mem_append_right _ (List.mem_append_right _ (List.mem_append_right _ (List.mem_append_right _ (List.mem_append_right _ (List.mem_append_left _ h)))))), hg⟩
theorem q_tb7 {w : Cond} (h : w ∈ tables_1_7) (hg : goodWord w = true) : w ∈ q_TB := List.mem_filter.mpr ⟨List.mem_append_right _ (show w ∈ tables_1_1 ++ (tables_1_2 ++ (tables_1_3 ++ (tables_1_4 ++ (tables_1_5 ++ (tables_1_6 ++ (tables_1_7 ++ (tables_1_8 ++ (tables_1_9 ++ tables_1_10)))))))) from List.mem_append_right _ (List.mem_append_right _ (List.mem_append_right _ (List.mem_append_right _ (List.mem_append_right _ (List.mem_append_right _ (List.mem_append_left _ h))))))), hg⟩
theorem q_tb8 {w : Cond} (h : w ∈ tables_1_8) (hg : goodWord w = true) : w ∈ q_TB := List.mem_filter.mpr ⟨List.mem_append_right _ (show w ∈ tables_1_1 ++ (tables_1_2 ++ (tables_1_3 ++ (tables_1_4 ++ (tables_1_5 ++ (tables_1_6 ++ (tables_1_7 ++ (tables_1_8 ++ (tables_1_9 ++ tables_1_10)))))))) from List.mem_append_right _ (List.mem_append_right _ (List.mem_append_right _ (List.mem_append_right _ (List.mem_append_right _ (List.mem_append_right _ (List.mem_append_right _ (List.mem_append_left _ h)))))))), hg⟩
theorem q_tb9 {w : Cond} (h : w ∈ tables_1_9) (hg : goodWord w = true) : w ∈ q_TB := List.mem_filter.mpr ⟨List.mem_append_right _ (show w ∈ tables_1_1 ++ (tables_1_2 ++ (tables_1_3 ++ (tables_1_4 ++ (tables_1_5 ++ (tables_1_6 ++ (tables_1_7 ++ (tables_1_8 ++ (tables_1_9 ++ tables_1_10)))))))) from List.mem_append_right _ (List.mem_append_right _ (List.mem_append_right _ (List.mem_append_right _ (List.mem_append_right _ (List.mem_append_right _ (List.mem_append_right _ (List.mem_append_right _ (List.mem_append_left _ h))))))))), hg⟩
theorem q_tb10 {w : Cond} (h : w ∈ tables_1_10) (hg : goodWord w = true) : w ∈ q_TB := List.mem_filter.mpr ⟨List.mem_append_right _ (show w ∈ tables_1_1 ++ (tables_1_2 ++ (tables_1_3 ++ (tables_1_4 ++ (tables_1_5 ++ (tables_1_6 ++ (tables_1_7 ++ (tables_1_8 ++ (tables_1_9 ++ tables_1_10)))))))) from List.mem_append_right _ (List.mem_append_right _ (List.mem_append_right _ (List.mem_append_right _ (List.mem_append_right _ (List.mem_append_right _ (List.mem_append_right _ (List.mem_append_right _ (List.mem_append_right _ (h)))))))))), hg⟩
abbrev mX11_init : q_Mt := (11, yX11_init, cX11_init, 2, none)
abbrev mX10_init : q_Mt := (10, yX10_init, cX10_init, 1, none)
abbrev mX2_init : q_Mt := (2, yX2_init, cX2_init, 1, none)
abbrev mX5_init : q_Mt := (5, yX5_init, cX5_init, 1, none)
abbrev mX5_setPlain : q_Mt := (5, yX5_setPlain, cX5_setPlain, 1, none)
abbrev mX5_emit : q_Mt := (5, yX5_emit, cX5_emit, 2, none)
abbrev mX1_init : q_Mt := (1, yX1_init, cX1_init, 1, none)
abbrev mX9_init : q_Mt := (9, yX9_init, cX9_init, 1, none)
abbrev mX6_init : q_Mt := (6, yX6_init, cX6_init, 1, none)
abbrev mX8_init : q_Mt := (8, yX8_init, cX8_init, 1, none)
abbrev mX4_init : q_Mt := (4, yX4_init, cX4_init, 1, none)
abbrev mX3_init : q_Mt := (3, yX3_init, cX3_init, 1, none)
abbrev mX7_init : q_Mt := (7, yX7_init, cX7_init, 1, none)
abbrev mX0_init : q_Mt := (0, yX0_init, cX0_init, 1, none)
abbrev mX11_feed : q_Mt := (11, yX11_feed, cX11_feed, 6, (some .int))
abbrev mX10_size : q_Mt := (10, yX10_size, cX10_size, 1, (some .int))
abbrev mX10_put : q_Mt := (10, yX10_put, cX10_put, 3, none)
abbrev mX11_fault : q_Mt := (11, yX11_fault, cX11_fault, 1, (some .int))
abbrev mX10_faultPlace : q_Mt := (10, yX10_faultPlace, cX10_faultPlace, 1, (some .int))
abbrev mX11_undo : q_Mt := (11, yX11_undo, cX11_undo, 1, (some .int))
abbrev mX8_size : q_Mt := (8, yX8_size, cX8_size, 1, (some .int))
abbrev mX8_pop : q_Mt := (8, yX8_pop, cX8_pop, 2, none)
abbrev mX11_soon : q_Mt := (11, yX11_soon, cX11_soon, 1, (some .int))
abbrev mX4_duskOfNothingOwed : q_Mt := (4, yX4_duskOfNothingOwed, cX4_duskOfNothingOwed, 5, (some .int))
abbrev mX6_copy : q_Mt := (6, yX6_copy, cX6_copy, 2, none)
abbrev mX6_payByTerm : q_Mt := (6, yX6_payByTerm, cX6_payByTerm, 6, (some .int))
abbrev mX6_owed : q_Mt := (6, yX6_owed, cX6_owed, 2, (some .int))
abbrev mX6_unspent : q_Mt := (6, yX6_unspent, cX6_unspent, 2, (some .int))
abbrev mX6_pay : q_Mt := (6, yX6_pay, cX6_pay, 5, (some .boolean))
abbrev mX6_owedInAll : q_Mt := (6, yX6_owedInAll, cX6_owedInAll, 4, (some .int))
abbrev mX6_today : q_Mt := (6, yX6_today, cX6_today, 1, (some .int))
abbrev mX6_pass : q_Mt := (6, yX6_pass, cX6_pass, 5, (some .boolean))
abbrev mX6_paidToday : q_Mt := (6, yX6_paidToday, cX6_paidToday, 2, (some .int))
abbrev mX6_growthOf : q_Mt := (6, yX6_growthOf, cX6_growthOf, 9, (some .int))
abbrev mX6_holder : q_Mt := (6, yX6_holder, cX6_holder, 2, (some .int))
abbrev mX5_growth : q_Mt := (5, yX5_growth, cX5_growth, 11, (some .int))
abbrev mX5_joined : q_Mt := (5, yX5_joined, cX5_joined, 3, (some .int))
abbrev mX6_takeLight : q_Mt := (6, yX6_takeLight, cX6_takeLight, 3, none)
abbrev mX2_shine : q_Mt := (2, yX2_shine, cX2_shine, 3, (some .int))
abbrev mX11_next : q_Mt := (11, yX11_next, cX11_next, 1, (some .int))
abbrev mX6_firstDue : q_Mt := (6, yX6_firstDue, cX6_firstDue, 3, (some .int))
abbrev mX11_matched : q_Mt := (11, yX11_matched, cX11_matched, 1, (some .int))
abbrev mX11_moved : q_Mt := (11, yX11_moved, cX11_moved, 1, (some .int))
abbrev mX1_rightMoves : q_Mt := (1, yX1_rightMoves, cX1_rightMoves, 4, (some .int))
abbrev mX1_isRight : q_Mt := (1, yX1_isRight, cX1_isRight, 4, (some .boolean))
abbrev mX11_greatest : q_Mt := (11, yX11_greatest, cX11_greatest, 5, (some .int))
abbrev mX6_owedTo : q_Mt := (6, yX6_owedTo, cX6_owedTo, 5, (some .int))
abbrev mX6_claim : q_Mt := (6, yX6_claim, cX6_claim, 6, (some .int))
abbrev mX11_image : q_Mt := (11, yX11_image, cX11_image, 1, (some .int))
abbrev mX8_copy : q_Mt := (8, yX8_copy, cX8_copy, 2, none)
abbrev mX8_push : q_Mt := (8, yX8_push, cX8_push, 2, none)
abbrev mX11_restore : q_Mt := (11, yX11_restore, cX11_restore, 1, (some .int))
abbrev mX11_status : q_Mt := (11, yX11_status, cX11_status, 2, (some .int))
abbrev mX11_count : q_Mt := (11, yX11_count, cX11_count, 2, (some .int))
abbrev mX11_coast : q_Mt := (11, yX11_coast, cX11_coast, 3, (some .int))
abbrev mX11_openText : q_Mt := (11, yX11_openText, cX11_openText, 3, none)
abbrev mX11_require : q_Mt := (11, yX11_require, cX11_require, 2, none)
abbrev mX10_open : q_Mt := (10, yX10_open, cX10_open, 2, none)
abbrev mX2_read : q_Mt := (2, yX2_read, cX2_read, 3, none)
abbrev mX2_clear : q_Mt := (2, yX2_clear, cX2_clear, 1, none)
abbrev mX10_goesOn : q_Mt := (10, yX10_goesOn, cX10_goesOn, 1, (some .boolean))
abbrev mX10_skipBlanks : q_Mt := (10, yX10_skipBlanks, cX10_skipBlanks, 1, none)
abbrev mX2_readClause : q_Mt := (2, yX2_readClause, cX2_readClause, 4, none)
abbrev mX10_word : q_Mt := (10, yX10_word, cX10_word, 1, none)
abbrev mX10_peek : q_Mt := (10, yX10_peek, cX10_peek, 1, (some .int))
abbrev mX10_isLetter : q_Mt := (10, yX10_isLetter, cX10_isLetter, 1, (some .boolean))
abbrev mX10_startOfLast : q_Mt := (10, yX10_startOfLast, cX10_startOfLast, 1, (some .int))
abbrev mX10_was : q_Mt := (10, yX10_was, cX10_was, 3, (some .boolean))
abbrev mJ3_checkIndex_8e157 : q_Mt := (21, yJ3_checkIndex_8e157, cJ3_checkIndex_8e157, 3, (some .int))
abbrev mX2_admit : q_Mt := (2, yX2_admit, cX2_admit, 3, none)
abbrev mX10_blame : q_Mt := (10, yX10_blame, cX10_blame, 3, none)
abbrev mX2_readCreditor : q_Mt := (2, yX2_readCreditor, cX2_readCreditor, 4, none)
abbrev mX10_number : q_Mt := (10, yX10_number, cX10_number, 4, (some .int))
abbrev mX10_isDigit : q_Mt := (10, yX10_isDigit, cX10_isDigit, 1, (some .boolean))
abbrev mX10_failed : q_Mt := (10, yX10_failed, cX10_failed, 1, (some .boolean))
abbrev mX2_readDebt : q_Mt := (2, yX2_readDebt, cX2_readDebt, 7, none)
abbrev mX10_colour : q_Mt := (10, yX10_colour, cX10_colour, 1, (some .int))
abbrev mX2_readDusk : q_Mt := (2, yX2_readDusk, cX2_readDusk, 4, none)
abbrev mX2_readRidge : q_Mt := (2, yX2_readRidge, cX2_readRidge, 4, none)
abbrev mX2_readLamp : q_Mt := (2, yX2_readLamp, cX2_readLamp, 4, none)
abbrev mX2_readWedding : q_Mt := (2, yX2_readWedding, cX2_readWedding, 5, none)
abbrev mX2_readFog : q_Mt := (2, yX2_readFog, cX2_readFog, 3, none)
abbrev mX2_readLoan : q_Mt := (2, yX2_readLoan, cX2_readLoan, 6, none)
abbrev mX10_need : q_Mt := (10, yX10_need, cX10_need, 2, none)
abbrev mX10_takes : q_Mt := (10, yX10_takes, cX10_takes, 2, (some .boolean))
abbrev mX2_orderByTerm : q_Mt := (2, yX2_orderByTerm, cX2_orderByTerm, 3, none)
abbrev mX10_faultKind : q_Mt := (10, yX10_faultKind, cX10_faultKind, 1, (some .int))
abbrev mX11_startAnew : q_Mt := (11, yX11_startAnew, cX11_startAnew, 1, none)
abbrev mX1_clear : q_Mt := (1, yX1_clear, cX1_clear, 1, none)
abbrev mX8_clear : q_Mt := (8, yX8_clear, cX8_clear, 1, none)
abbrev mX6_start : q_Mt := (6, yX6_start, cX6_start, 3, none)
abbrev mX7_match : q_Mt := (7, yX7_match, cX7_match, 7, none)
abbrev mX7_findFitting : q_Mt := (7, yX7_findFitting, cX7_findFitting, 5, none)
abbrev mX2_fittingDusks : q_Mt := (2, yX2_fittingDusks, cX2_fittingDusks, 5, (some .long))
abbrev mX7_mostMatched : q_Mt := (7, yX7_mostMatched, cX7_mostMatched, 6, (some .int))
abbrev mX7_firstDay : q_Mt := (7, yX7_firstDay, cX7_firstDay, 10, (some .int))
abbrev mX11_law : q_Mt := (11, yX11_law, cX11_law, 3, (some .int))
abbrev mX5_read : q_Mt := (5, yX5_read, cX5_read, 2, none)
abbrev mX5_readSum : q_Mt := (5, yX5_readSum, cX5_readSum, 4, none)
abbrev mX5_readProduct : q_Mt := (5, yX5_readProduct, cX5_readProduct, 4, none)
abbrev mX5_readUnit : q_Mt := (5, yX5_readUnit, cX5_readUnit, 3, none)
abbrev mX10_isAtDigit : q_Mt := (10, yX10_isAtDigit, cX10_isAtDigit, 1, (some .boolean))
abbrev mX5_mayOpen : q_Mt := (5, yX5_mayOpen, cX5_mayOpen, 2, (some .boolean))
abbrev mX5_readPair : q_Mt := (5, yX5_readPair, cX5_readPair, 4, none)
abbrev mX5_readName : q_Mt := (5, yX5_readName, cX5_readName, 2, none)
abbrev mX10_needEnd : q_Mt := (10, yX10_needEnd, cX10_needEnd, 1, none)
abbrev mX11_work : q_Mt := (11, yX11_work, cX11_work, 2, (some .int))
abbrev mX9_read : q_Mt := (9, yX9_read, cX9_read, 4, none)
abbrev mX9_readStep : q_Mt := (9, yX9_readStep, cX9_readStep, 5, none)
abbrev mX9_add : q_Mt := (9, yX9_add, cX9_add, 4, none)
abbrev mX9_readAgain : q_Mt := (9, yX9_readAgain, cX9_readAgain, 6, none)
abbrev mX9_run : q_Mt := (9, yX9_run, cX9_run, 4, none)
abbrev mX9_runSteps : q_Mt := (9, yX9_runSteps, cX9_runSteps, 8, none)
abbrev mX9_isDone : q_Mt := (9, yX9_isDone, cX9_isDone, 5, (some .boolean))
abbrev mX6_borrow : q_Mt := (6, yX6_borrow, cX6_borrow, 4, (some .boolean))
abbrev mX6_lent : q_Mt := (6, yX6_lent, cX6_lent, 2, (some .int))
abbrev mX6_handOn : q_Mt := (6, yX6_handOn, cX6_handOn, 3, (some .boolean))
abbrev mX11_book : q_Mt := (11, yX11_book, cX11_book, 3, (some .int))
abbrev mX1_read : q_Mt := (1, yX1_read, cX1_read, 3, none)
abbrev mX1_readLine : q_Mt := (1, yX1_readLine, cX1_readLine, 5, none)
abbrev mX11_told : q_Mt := (11, yX11_told, cX11_told, 2, (some .int))
abbrev mX11_isIn : q_Mt := (11, yX11_isIn, cX11_isIn, 3, (some .boolean))
abbrev mX6_inDefault : q_Mt := (6, yX6_inDefault, cX6_inDefault, 4, (some .int))
abbrev mX6_defaulted : q_Mt := (6, yX6_defaulted, cX6_defaulted, 2, (some .int))
abbrev mX11_creditor : q_Mt := (11, yX11_creditor, cX11_creditor, 3, (some .int))
abbrev mX11_requireCreditor : q_Mt := (11, yX11_requireCreditor, cX11_requireCreditor, 2, none)
abbrev mX11_requireSuch : q_Mt := (11, yX11_requireSuch, cX11_requireSuch, 2, none)
abbrev mX6_debtsTo : q_Mt := (6, yX6_debtsTo, cX6_debtsTo, 5, (some .int))
abbrev mX11_debt : q_Mt := (11, yX11_debt, cX11_debt, 3, (some .int))
abbrev mX11_requireDebt : q_Mt := (11, yX11_requireDebt, cX11_requireDebt, 2, none)
abbrev mX6_paid : q_Mt := (6, yX6_paid, cX6_paid, 2, (some .int))
abbrev mX11_light : q_Mt := (11, yX11_light, cX11_light, 3, (some .int))
abbrev mX11_isColour : q_Mt := (11, yX11_isColour, cX11_isColour, 1, (some .boolean))
abbrev mX6_owedOf : q_Mt := (6, yX6_owedOf, cX6_owedOf, 5, (some .int))
abbrev mX6_paidOf : q_Mt := (6, yX6_paidOf, cX6_paidOf, 5, (some .int))
abbrev mX11_dusk : q_Mt := (11, yX11_dusk, cX11_dusk, 3, (some .int))
abbrev mX11_isDusk : q_Mt := (11, yX11_isDusk, cX11_isDusk, 1, (some .boolean))
abbrev mX11_would : q_Mt := (11, yX11_would, cX11_would, 5, (some .int))
abbrev mX11_grows : q_Mt := (11, yX11_grows, cX11_grows, 2, (some .int))
abbrev mX6_growth : q_Mt := (6, yX6_growth, cX6_growth, 4, (some .int))
abbrev mX11_best : q_Mt := (11, yX11_best, cX11_best, 2, (some .int))
abbrev mX3_choose : q_Mt := (3, yX3_choose, cX3_choose, 5, none)
abbrev mX3_branch : q_Mt := (3, yX3_branch, cX3_branch, 8, none)
abbrev mX11_left : q_Mt := (11, yX11_left, cX11_left, 2, (some .int))
abbrev mX4_owedBehind : q_Mt := (4, yX4_owedBehind, cX4_owedBehind, 6, (some .int))
abbrev mX11_delay : q_Mt := (11, yX11_delay, cX11_delay, 3, (some .int))
abbrev mX4_dusksToWait : q_Mt := (4, yX4_dusksToWait, cX4_dusksToWait, 10, (some .int))
abbrev mX11_weds : q_Mt := (11, yX11_weds, cX11_weds, 2, (some .int))
abbrev mX11_requireWedding : q_Mt := (11, yX11_requireWedding, cX11_requireWedding, 2, none)
abbrev mX11_choices : q_Mt := (11, yX11_choices, cX11_choices, 2, (some .int))
abbrev mX11_sees : q_Mt := (11, yX11_sees, cX11_sees, 2, (some .boolean))
abbrev mX2_showsSea : q_Mt := (2, yX2_showsSea, cX2_showsSea, 5, (some .boolean))
abbrev mX11_eyes : q_Mt := (11, yX11_eyes, cX11_eyes, 3, (some .int))
abbrev mX11_chairs : q_Mt := (11, yX11_chairs, cX11_chairs, 3, (some .int))
abbrev mX11_fewestChairs : q_Mt := (11, yX11_fewestChairs, cX11_fewestChairs, 5, (some .int))
abbrev mX2_firstSeat : q_Mt := (2, yX2_firstSeat, cX2_firstSeat, 4, (some .int))
abbrev mX11_firstChairs : q_Mt := (11, yX11_firstChairs, cX11_firstChairs, 6, (some .int))
abbrev mX11_gets : q_Mt := (11, yX11_gets, cX11_gets, 8, (some .int))
abbrev mX11_levelOf : q_Mt := (11, yX11_levelOf, cX11_levelOf, 7, (some .int))
abbrev mX11_givenBy : q_Mt := (11, yX11_givenBy, cX11_givenBy, 5, (some .int))
abbrev mX11_owes : q_Mt := (11, yX11_owes, cX11_owes, 3, (some .int))
abbrev mX2_loan : q_Mt := (2, yX2_loan, cX2_loan, 3, (some .int))
abbrev mX11_net : q_Mt := (11, yX11_net, cX11_net, 2, (some .int))
abbrev mX2_netOf : q_Mt := (2, yX2_netOf, cX2_netOf, 4, (some .int))
abbrev mX11_struck : q_Mt := (11, yX11_struck, cX11_struck, 3, (some .int))
abbrev mX2_leastSum : q_Mt := (2, yX2_leastSum, cX2_leastSum, 3, (some .int))
abbrev mX2_loansInAll : q_Mt := (2, yX2_loansInAll, cX2_loansInAll, 3, (some .int))
abbrev mX11_look : q_Mt := (11, yX11_look, cX11_look, 2, (some .int))
abbrev mX1_findLook : q_Mt := (1, yX1_findLook, cX1_findLook, 5, none)
abbrev mX1_isInLine : q_Mt := (1, yX1_isInLine, cX1_isInLine, 4, (some .boolean))
abbrev mX1_mostAlike : q_Mt := (1, yX1_mostAlike, cX1_mostAlike, 6, (some .int))
abbrev mX1_alike : q_Mt := (1, yX1_alike, cX1_alike, 7, (some .int))
abbrev mX1_offerLook : q_Mt := (1, yX1_offerLook, cX1_offerLook, 4, none)
abbrev mX11_settle : q_Mt := (11, yX11_settle, cX11_settle, 11, (some .long))
abbrev mX11_areSettleable : q_Mt := (11, yX11_areSettleable, cX11_areSettleable, 4, (some .boolean))
abbrev mX11_payOff : q_Mt := (11, yX11_payOff, cX11_payOff, 2, (some .long))
abbrev mX11_waitLoss : q_Mt := (11, yX11_waitLoss, cX11_waitLoss, 13, (some .long))
abbrev mX11_now : q_Mt := (11, yX11_now, cX11_now, 5, (some .boolean))
abbrev mX11_bids : q_Mt := (11, yX11_bids, cX11_bids, 6, (some .int))
abbrev mX0_findRests : q_Mt := (0, yX0_findRests, cX0_findRests, 5, none)
abbrev mX0_bestGain : q_Mt := (0, yX0_bestGain, cX0_bestGain, 5, (some .int))
abbrev mX0_gain : q_Mt := (0, yX0_gain, cX0_gain, 3, (some .int))
abbrev mX0_addRest : q_Mt := (0, yX0_addRest, cX0_addRest, 3, none)
abbrev mX11_has : q_Mt := (11, yX11_has, cX11_has, 5, (some .int))
abbrev mX11_decade : q_Mt := (11, yX11_decade, cX11_decade, 4, (some .int))
abbrev mX4_liveDecade : q_Mt := (4, yX4_liveDecade, cX4_liveDecade, 8, none)
abbrev mX6_loseLight : q_Mt := (6, yX6_loseLight, cX6_loseLight, 2, none)
abbrev mX4_owedThen : q_Mt := (4, yX4_owedThen, cX4_owedThen, 2, (some .int))
abbrev mX4_inDefaultThen : q_Mt := (4, yX4_inDefaultThen, cX4_inDefaultThen, 2, (some .int))
abbrev mX11_span : q_Mt := (11, yX11_span, cX11_span, 10, (some .int))
abbrev mX11_brightest : q_Mt := (11, yX11_brightest, cX11_brightest, 6, (some .int))
abbrev mX12_thrown : q_Mt := (12, yX12_thrown, cX12_thrown, 1, (some .int))
abbrev mX12_init : q_Mt := (12, yX12_init, cX12_init, 1, none)
abbrev mX12_clears : q_Mt := (12, yX12_clears, cX12_clears, 2, none)
abbrev mX12_sets : q_Mt := (12, yX12_sets, cX12_sets, 2, none)
abbrev mX12_copies : q_Mt := (12, yX12_copies, cX12_copies, 5, none)
abbrev mX12_lightOf : q_Mt := (12, yX12_lightOf, cX12_lightOf, 3, (some .int))
abbrev mX12_feed : q_Mt := (12, yX12_feed, cX12_feed, 8, (some .int))
abbrev mX12_fault : q_Mt := (12, yX12_fault, cX12_fault, 1, (some .int))
abbrev mX12_coast : q_Mt := (12, yX12_coast, cX12_coast, 6, (some .int))
abbrev mX12_may : q_Mt := (12, yX12_may, cX12_may, 4, (some .boolean))
abbrev mX12_begins : q_Mt := (12, yX12_begins, cX12_begins, 2, none)
abbrev mX12_fine : q_Mt := (12, yX12_fine, cX12_fine, 1, (some .boolean))
abbrev mX12_isMore : q_Mt := (12, yX12_isMore, cX12_isMore, 1, (some .boolean))
abbrev mX12_here : q_Mt := (12, yX12_here, cX12_here, 1, (some .int))
abbrev mX12_isCreditor : q_Mt := (12, yX12_isCreditor, cX12_isCreditor, 1, (some .boolean))
abbrev mX12_standsHere : q_Mt := (12, yX12_standsHere, cX12_standsHere, 3, (some .boolean))
abbrev mX12_isSmall : q_Mt := (12, yX12_isSmall, cX12_isSmall, 1, (some .boolean))
abbrev mX12_isWedding : q_Mt := (12, yX12_isWedding, cX12_isWedding, 1, (some .boolean))
abbrev mX12_word : q_Mt := (12, yX12_word, cX12_word, 4, (some .int))
abbrev mX12_of : q_Mt := (12, yX12_of, cX12_of, 3, (some .int))
abbrev mX12_wrong : q_Mt := (12, yX12_wrong, cX12_wrong, 3, none)
abbrev mX12_pass : q_Mt := (12, yX12_pass, cX12_pass, 1, none)
abbrev mX12_readCreditor : q_Mt := (12, yX12_readCreditor, cX12_readCreditor, 1, none)
abbrev mX12_readNumber : q_Mt := (12, yX12_readNumber, cX12_readNumber, 6, (some .int))
abbrev mX12_isDigit : q_Mt := (12, yX12_isDigit, cX12_isDigit, 1, (some .boolean))
abbrev mX12_readWedding : q_Mt := (12, yX12_readWedding, cX12_readWedding, 2, none)
abbrev mX12_readColour : q_Mt := (12, yX12_readColour, cX12_readColour, 2, (some .int))
abbrev mX12_colourHere : q_Mt := (12, yX12_colourHere, cX12_colourHere, 2, (some .int))
abbrev mX12_readRow : q_Mt := (12, yX12_readRow, cX12_readRow, 6, none)
abbrev mX12_sign : q_Mt := (12, yX12_sign, cX12_sign, 2, none)
abbrev mX12_result : q_Mt := (12, yX12_result, cX12_result, 2, (some .int))
abbrev mX12_law : q_Mt := (12, yX12_law, cX12_law, 3, (some .int))
abbrev mX12_readSum : q_Mt := (12, yX12_readSum, cX12_readSum, 2, none)
abbrev mX12_readProduct : q_Mt := (12, yX12_readProduct, cX12_readProduct, 2, none)
abbrev mX12_readUnit : q_Mt := (12, yX12_readUnit, cX12_readUnit, 2, none)
abbrev mX12_opensOne : q_Mt := (12, yX12_opensOne, cX12_opensOne, 2, none)
abbrev mX12_emit : q_Mt := (12, yX12_emit, cX12_emit, 3, none)
abbrev mX12_readTwo : q_Mt := (12, yX12_readTwo, cX12_readTwo, 3, none)
abbrev mX12_factHere : q_Mt := (12, yX12_factHere, cX12_factHere, 2, (some .int))
abbrev mX12_work : q_Mt := (12, yX12_work, cX12_work, 4, (some .int))
abbrev mX12_readStep : q_Mt := (12, yX12_readStep, cX12_readStep, 4, none)
abbrev mX12_tellsStep : q_Mt := (12, yX12_tellsStep, cX12_tellsStep, 4, none)
abbrev mX12_take : q_Mt := (12, yX12_take, cX12_take, 1, none)
abbrev mX12_goesSteps : q_Mt := (12, yX12_goesSteps, cX12_goesSteps, 6, none)
abbrev mX12_goes : q_Mt := (12, yX12_goes, cX12_goes, 4, (some .boolean))
abbrev mX12_goesNext : q_Mt := (12, yX12_goesNext, cX12_goesNext, 1, (some .boolean))
abbrev mX12_passes : q_Mt := (12, yX12_passes, cX12_passes, 2, none)
abbrev mX12_growsOf : q_Mt := (12, yX12_growsOf, cX12_growsOf, 2, (some .int))
abbrev mX12_lastOf : q_Mt := (12, yX12_lastOf, cX12_lastOf, 2, (some .int))
abbrev mX12_colourOf : q_Mt := (12, yX12_colourOf, cX12_colourOf, 2, (some .int))
abbrev mX12_growsNow : q_Mt := (12, yX12_growsNow, cX12_growsNow, 2, (some .int))
abbrev mX12_valueNow : q_Mt := (12, yX12_valueNow, cX12_valueNow, 4, (some .int))
abbrev mX12_both : q_Mt := (12, yX12_both, cX12_both, 3, (some .int))
abbrev mX12_pays : q_Mt := (12, yX12_pays, cX12_pays, 4, (some .boolean))
abbrev mX12_book : q_Mt := (12, yX12_book, cX12_book, 7, (some .int))
abbrev mX12_undo : q_Mt := (12, yX12_undo, cX12_undo, 2, (some .int))
abbrev mX12_told : q_Mt := (12, yX12_told, cX12_told, 2, (some .int))
abbrev mX12_within : q_Mt := (12, yX12_within, cX12_within, 3, (some .boolean))
abbrev mX12_owedAll : q_Mt := (12, yX12_owedAll, cX12_owedAll, 3, (some .int))
abbrev mX12_lateAll : q_Mt := (12, yX12_lateAll, cX12_lateAll, 3, (some .int))
abbrev mX12_creditor : q_Mt := (12, yX12_creditor, cX12_creditor, 5, (some .int))
abbrev mX12_isCreditor_ : q_Mt := (12, yX12_isCreditor_, cX12_isCreditor_, 3, (some .boolean))
abbrev mX12_owedTo : q_Mt := (12, yX12_owedTo, cX12_owedTo, 5, (some .int))
abbrev mX12_debt : q_Mt := (12, yX12_debt, cX12_debt, 3, (some .int))
abbrev mX12_isDebt : q_Mt := (12, yX12_isDebt, cX12_isDebt, 3, (some .boolean))
abbrev mX12_light : q_Mt := (12, yX12_light, cX12_light, 5, (some .int))
abbrev mX12_isColour : q_Mt := (12, yX12_isColour, cX12_isColour, 1, (some .boolean))
abbrev mX12_dusk : q_Mt := (12, yX12_dusk, cX12_dusk, 3, (some .int))
abbrev mX12_isDusk : q_Mt := (12, yX12_isDusk, cX12_isDusk, 1, (some .boolean))
abbrev mX12_would : q_Mt := (12, yX12_would, cX12_would, 6, (some .int))
abbrev mX12_grows : q_Mt := (12, yX12_grows, cX12_grows, 2, (some .int))
abbrev mX12_best : q_Mt := (12, yX12_best, cX12_best, 7, (some .int))
abbrev mX12_canEnd : q_Mt := (12, yX12_canEnd, cX12_canEnd, 3, (some .boolean))
abbrev mX12_soon : q_Mt := (12, yX12_soon, cX12_soon, 2, (some .int))
abbrev mX12_paysAll : q_Mt := (12, yX12_paysAll, cX12_paysAll, 5, none)
abbrev mX12_isAhead : q_Mt := (12, yX12_isAhead, cX12_isAhead, 3, (some .boolean))
abbrev mX12_left : q_Mt := (12, yX12_left, cX12_left, 3, (some .int))
abbrev mX12_delay : q_Mt := (12, yX12_delay, cX12_delay, 4, (some .int))
abbrev mX12_next : q_Mt := (12, yX12_next, cX12_next, 3, (some .int))
abbrev mX12_matched : q_Mt := (12, yX12_matched, cX12_matched, 1, (some .int))
abbrev mX12_findWeddings : q_Mt := (12, yX12_findWeddings, cX12_findWeddings, 5, (some .int))
abbrev mX12_mostWith : q_Mt := (12, yX12_mostWith, cX12_mostWith, 5, (some .int))
abbrev mX12_finds : q_Mt := (12, yX12_finds, cX12_finds, 4, (some .boolean))
abbrev mX12_canWed : q_Mt := (12, yX12_canWed, cX12_canWed, 3, (some .boolean))
abbrev mX12_isTaken : q_Mt := (12, yX12_isTaken, cX12_isTaken, 4, (some .boolean))
abbrev mX12_weds : q_Mt := (12, yX12_weds, cX12_weds, 2, (some .int))
abbrev mX12_isWedding_ : q_Mt := (12, yX12_isWedding_, cX12_isWedding_, 3, (some .boolean))
abbrev mX12_choices : q_Mt := (12, yX12_choices, cX12_choices, 4, (some .int))
abbrev mX12_sees : q_Mt := (12, yX12_sees, cX12_sees, 2, (some .boolean))
abbrev mX12_seesFrom : q_Mt := (12, yX12_seesFrom, cX12_seesFrom, 5, (some .boolean))
abbrev mX12_eyes : q_Mt := (12, yX12_eyes, cX12_eyes, 3, (some .int))
abbrev mX12_chairs : q_Mt := (12, yX12_chairs, cX12_chairs, 4, (some .int))
abbrev mX12_chairsOn : q_Mt := (12, yX12_chairsOn, cX12_chairsOn, 8, (some .boolean))
abbrev mX12_gets : q_Mt := (12, yX12_gets, cX12_gets, 8, (some .int))
abbrev mX12_levelled : q_Mt := (12, yX12_levelled, cX12_levelled, 5, (some .int))
abbrev mX12_owes : q_Mt := (12, yX12_owes, cX12_owes, 3, (some .int))
abbrev mX12_net : q_Mt := (12, yX12_net, cX12_net, 2, (some .int))
abbrev mX12_netOf : q_Mt := (12, yX12_netOf, cX12_netOf, 4, (some .int))
abbrev mX12_struck : q_Mt := (12, yX12_struck, cX12_struck, 6, (some .int))
abbrev mX12_moved : q_Mt := (12, yX12_moved, cX12_moved, 1, (some .int))
abbrev mX12_movedNow : q_Mt := (12, yX12_movedNow, cX12_movedNow, 5, (some .int))
abbrev mX12_look : q_Mt := (12, yX12_look, cX12_look, 7, (some .int))
abbrev mX12_isSeen : q_Mt := (12, yX12_isSeen, cX12_isSeen, 4, (some .boolean))
abbrev mX12_worstAt : q_Mt := (12, yX12_worstAt, cX12_worstAt, 7, (some .int))
abbrev mX12_settle : q_Mt := (12, yX12_settle, cX12_settle, 6, (some .long))
abbrev mX12_isSettled : q_Mt := (12, yX12_isSettled, cX12_isSettled, 4, (some .boolean))
abbrev mX12_zero : q_Mt := (12, yX12_zero, cX12_zero, 1, (some .int))
abbrev mX12_losesOf : q_Mt := (12, yX12_losesOf, cX12_losesOf, 9, (some .long))
abbrev mX12_waits : q_Mt := (12, yX12_waits, cX12_waits, 5, (some .long))
abbrev mX12_least : q_Mt := (12, yX12_least, cX12_least, 11, (some .long))
abbrev mX12_now : q_Mt := (12, yX12_now, cX12_now, 5, (some .boolean))
abbrev mX12_bids : q_Mt := (12, yX12_bids, cX12_bids, 10, (some .int))
abbrev mX12_isBest : q_Mt := (12, yX12_isBest, cX12_isBest, 5, (some .boolean))
abbrev mX12_hasOf : q_Mt := (12, yX12_hasOf, cX12_hasOf, 3, (some .int))
abbrev mX12_has : q_Mt := (12, yX12_has, cX12_has, 5, (some .int))
abbrev mX12_decade : q_Mt := (12, yX12_decade, cX12_decade, 4, (some .int))
abbrev mX12_goesOn : q_Mt := (12, yX12_goesOn, cX12_goesOn, 6, none)
abbrev mX12_draws : q_Mt := (12, yX12_draws, cX12_draws, 1, (some .int))
abbrev mX12_spentIn : q_Mt := (12, yX12_spentIn, cX12_spentIn, 2, (some .int))
abbrev mX12_span : q_Mt := (12, yX12_span, cX12_span, 10, (some .int))
abbrev mX12_greatest : q_Mt := (12, yX12_greatest, cX12_greatest, 4, (some .int))
abbrev mX12_brightest : q_Mt := (12, yX12_brightest, cX12_brightest, 4, (some .int))
abbrev mX12_image : q_Mt := (12, yX12_image, cX12_image, 1, (some .int))
abbrev mX12_keepsAll : q_Mt := (12, yX12_keepsAll, cX12_keepsAll, 4, none)
abbrev mX12_keepsRow : q_Mt := (12, yX12_keepsRow, cX12_keepsRow, 6, (some .int))
abbrev mX12_restore : q_Mt := (12, yX12_restore, cX12_restore, 1, (some .int))
abbrev mX12_status : q_Mt := (12, yX12_status, cX12_status, 2, (some .int))
abbrev mX12_count : q_Mt := (12, yX12_count, cX12_count, 2, (some .int))
def q_VM0 : List (q_Mt × Nat × Nat) := [(mX5_setPlain, 5, 0), (mX5_emit, 5, 1), (mX11_feed, 11, 5), (mX10_size, 10, 0), (mX10_put, 10, 1), (mX11_fault, 11, 0), (mX10_faultPlace, 10, 0), (mX11_undo, 11, 0), (mX8_size, 8, 0), (mX8_pop, 8, 1), (mX11_soon, 11, 0), (mX4_duskOfNothingOwed, 4, 3), (mX6_copy, 6, 1), (mX6_payByTerm, 6, 1), (mX6_owed, 6, 1), (mX6_unspent, 6, 1), (mX6_pay, 6, 3), (mX6_owedInAll, 6, 1), (mX6_today, 6, 0), (mX6_pass, 6, 2), (mX6_paidToday, 6, 1), (mX6_growthOf, 6, 6), (mX6_holder, 6, 1), (mX5_growth, 5, 7), (mX6_takeLight, 6, 1), (mX2_shine, 2, 2), (mX11_next, 11, 0), (mX6_firstDue, 6, 1), (mX11_matched, 11, 0), (mX11_moved, 11, 0), (mX1_rightMoves, 1, 1), (mX1_isRight, 1, 2), (mX11_greatest, 11, 0), (mX6_owedTo, 6, 2), (mX6_claim, 6, 3), (mX11_image, 11, 0), (mX8_copy, 8, 1), (mX8_push, 8, 1), (mX11_restore, 11, 0), (mX11_status, 11, 1)]
set_option maxRecDepth 100000 in
theorem q_VMw0 : ∀ w ∈ q_VM0.flatMap (fun e => [Cond.instanceMethod e.1.2.1, Cond.selects (q_own e.2.1) e.1.2.1 e.1.2.1, Cond.initialized (q_own e.2.1)]), w ∈ q_TB := q_inTB [285, 286, 122, 290, 0, 122, 536, 537, 119, 540, 541, 120, 544, 545, 120, 548, 549, 119, 552, 553, 120, 556, 557, 119, 560, 561, 126, 564, 565, 126, 571, 572, 119, 575, 576, 127, 579, 580, 125, 584, 585, 125, 588, 589, 125, 592, 593, 125, 599, 600, 125, 603, 604, 125, 607, 608, 125, 611, 612, 125, 616, 617, 125, 620, 621, 125, 627, 628, 125, 631, 632, 122, 641, 1, 125, 644, 645, 121, 648, 649, 119, 652, 653, 125, 656, 657, 119, 660, 661, 119, 664, 665, 123, 669, 2, 123, 673, 674, 119, 677, 678, 125, 681, 682, 125, 685, 686, 119, 689, 690, 126, 693, 694, 126, 697, 698, 119, 701, 702, 119] (by decide +kernel) (by decide +kernel)
set_option maxRecDepth 100000 in
theorem q_VMx0 : ∀ e ∈ q_VM0, e.2.1 < 13 ∧ e.1.2.1.cls = q_own e.2.1 ∧ (e.1.2.1.cls ≠ "java/lang/invoke/MethodHandle" ∧ e.1.2.1.cls ≠ "java/lang/invoke/VarHandle" ∧ (parseMethodDescriptor e.1.2.1.desc).map (fun d => d.parameters.length) = some e.2.2) ∧ e.1.2.2.2.1 + 19 ≤ 64 ∧ plainName e.1.2.1.cls = true ∧ e.1.1 = e.2.1 := by decide +kernel
def q_VM1 : List (q_Mt × Nat × Nat) := [(mX11_count, 11, 1), (mX11_coast, 11, 1), (mX11_openText, 11, 2), (mX11_require, 11, 1), (mX10_open, 10, 1), (mX2_read, 2, 1), (mX2_clear, 2, 0), (mX10_goesOn, 10, 0), (mX10_skipBlanks, 10, 0), (mX2_readClause, 2, 2), (mX10_word, 10, 0), (mX10_peek, 10, 0), (mX10_startOfLast, 10, 0), (mX10_was, 10, 1), (mX10_blame, 10, 2), (mX2_readCreditor, 2, 1), (mX10_number, 10, 2), (mX10_failed, 10, 0), (mX2_readDebt, 2, 1), (mX10_colour, 10, 0), (mX2_readDusk, 2, 1), (mX2_readRidge, 2, 1), (mX2_readLamp, 2, 1), (mX2_readWedding, 2, 1), (mX2_readFog, 2, 1), (mX2_readLoan, 2, 1), (mX10_need, 10, 1), (mX10_takes, 10, 1), (mX2_orderByTerm, 2, 0), (mX10_faultKind, 10, 0), (mX11_startAnew, 11, 0), (mX1_clear, 1, 0), (mX8_clear, 8, 0), (mX6_start, 6, 1), (mX7_match, 7, 1), (mX7_findFitting, 7, 1), (mX2_fittingDusks, 2, 1), (mX7_mostMatched, 7, 2), (mX7_firstDay, 7, 4), (mX11_law, 11, 1)]
set_option maxRecDepth 100000 in
theorem q_VMw1 : ∀ w ∈ q_VM1.flatMap (fun e => [Cond.instanceMethod e.1.2.1, Cond.selects (q_own e.2.1) e.1.2.1 e.1.2.1, Cond.initialized (q_own e.2.1)]), w ∈ q_TB := q_inTB [705, 706, 119, 713, 714, 119, 718, 3, 119, 722, 4, 119, 787, 788, 120, 792, 793, 121, 797, 6, 121, 803, 804, 120, 808, 7, 120, 812, 8, 121, 815, 816, 120, 820, 9, 120, 826, 827, 120, 831, 832, 120, 886, 887, 120, 891, 10, 121, 894, 895, 120, 902, 903, 120, 908, 11, 121, 911, 912, 120, 923, 12, 121, 928, 13, 121, 933, 14, 121, 938, 15, 121, 943, 16, 121, 948, 17, 121, 952, 953, 120, 956, 957, 120, 961, 18, 121, 965, 966, 120, 970, 19, 119, 974, 975, 123, 978, 979, 126, 982, 983, 125, 987, 988, 129, 992, 20, 129, 995, 996, 121, 1001, 21, 129, 1019, 22, 129, 1025, 1026, 119] (by decide +kernel) (by decide +kernel)
set_option maxRecDepth 100000 in
theorem q_VMx1 : ∀ e ∈ q_VM1, e.2.1 < 13 ∧ e.1.2.1.cls = q_own e.2.1 ∧ (e.1.2.1.cls ≠ "java/lang/invoke/MethodHandle" ∧ e.1.2.1.cls ≠ "java/lang/invoke/VarHandle" ∧ (parseMethodDescriptor e.1.2.1.desc).map (fun d => d.parameters.length) = some e.2.2) ∧ e.1.2.2.2.1 + 19 ≤ 64 ∧ plainName e.1.2.1.cls = true ∧ e.1.1 = e.2.1 := by decide +kernel
def q_VM2 : List (q_Mt × Nat × Nat) := [(mX5_read, 5, 1), (mX5_readSum, 5, 2), (mX5_readProduct, 5, 2), (mX5_readUnit, 5, 2), (mX10_isAtDigit, 10, 0), (mX5_readPair, 5, 3), (mX5_readName, 5, 1), (mX10_needEnd, 10, 0), (mX11_work, 11, 1), (mX9_read, 9, 2), (mX9_readStep, 9, 3), (mX9_add, 9, 3), (mX9_readAgain, 9, 3), (mX9_run, 9, 3), (mX9_runSteps, 9, 5), (mX9_isDone, 9, 4), (mX6_borrow, 6, 3), (mX6_lent, 6, 1), (mX6_handOn, 6, 2), (mX11_book, 11, 1), (mX1_read, 1, 1), (mX1_readLine, 1, 1), (mX11_told, 11, 1), (mX6_inDefault, 6, 1), (mX6_defaulted, 6, 1), (mX11_creditor, 11, 2), (mX11_requireCreditor, 11, 1), (mX11_requireSuch, 11, 1), (mX6_debtsTo, 6, 2), (mX11_debt, 11, 2), (mX11_requireDebt, 11, 1), (mX6_paid, 6, 1), (mX11_light, 11, 2), (mX6_owedOf, 6, 2), (mX6_paidOf, 6, 2), (mX11_dusk, 11, 2), (mX11_would, 11, 4), (mX11_grows, 11, 1), (mX6_growth, 6, 3), (mX11_best, 11, 1)]
set_option maxRecDepth 100000 in
theorem q_VMw2 : ∀ w ∈ q_VM2.flatMap (fun e => [Cond.instanceMethod e.1.2.1, Cond.selects (q_own e.2.1) e.1.2.1 e.1.2.1, Cond.initialized (q_own e.2.1)]), w ∈ q_TB := q_inTB [1029, 1030, 122, 1034, 23, 122, 1038, 24, 122, 1042, 25, 122, 1045, 1046, 120, 1062, 26, 122, 1067, 27, 122, 1077, 1078, 120, 1084, 1085, 119, 1088, 1089, 124, 1094, 28, 124, 1102, 29, 124, 1112, 30, 124, 1120, 1121, 124, 1125, 31, 124, 1130, 32, 124, 1135, 1136, 125, 1139, 1140, 125, 1143, 1144, 125, 1151, 1152, 119, 1155, 1156, 123, 1162, 33, 123, 1174, 1175, 119, 1183, 1184, 125, 1187, 1188, 125, 1195, 1196, 119, 1200, 34, 119, 1204, 35, 119, 1222, 1223, 125, 1229, 1230, 119, 1234, 36, 119, 1240, 1241, 125, 1247, 1248, 119, 1256, 1257, 125, 1260, 1261, 125, 1268, 1269, 119, 1279, 1280, 119, 1287, 1288, 119, 1291, 1292, 125, 1298, 1299, 119] (by decide +kernel) (by decide +kernel)
set_option maxRecDepth 100000 in
theorem q_VMx2 : ∀ e ∈ q_VM2, e.2.1 < 13 ∧ e.1.2.1.cls = q_own e.2.1 ∧ (e.1.2.1.cls ≠ "java/lang/invoke/MethodHandle" ∧ e.1.2.1.cls ≠ "java/lang/invoke/VarHandle" ∧ (parseMethodDescriptor e.1.2.1.desc).map (fun d => d.parameters.length) = some e.2.2) ∧ e.1.2.2.2.1 + 19 ≤ 64 ∧ plainName e.1.2.1.cls = true ∧ e.1.1 = e.2.1 := by decide +kernel
def q_VM3 : List (q_Mt × Nat × Nat) := [(mX3_choose, 3, 3), (mX3_branch, 3, 5), (mX11_left, 11, 1), (mX4_owedBehind, 4, 4), (mX11_delay, 11, 2), (mX4_dusksToWait, 4, 5), (mX11_weds, 11, 1), (mX11_requireWedding, 11, 1), (mX11_choices, 11, 1), (mX11_sees, 11, 1), (mX2_showsSea, 2, 2), (mX11_eyes, 11, 1), (mX11_chairs, 11, 2), (mX11_fewestChairs, 11, 2), (mX2_firstSeat, 2, 1), (mX11_firstChairs, 11, 1), (mX11_gets, 11, 4), (mX11_levelOf, 11, 2), (mX11_givenBy, 11, 2), (mX11_owes, 11, 2), (mX2_loan, 2, 2), (mX11_net, 11, 1), (mX2_netOf, 2, 1), (mX11_struck, 11, 1), (mX2_leastSum, 2, 0), (mX2_loansInAll, 2, 0), (mX11_look, 11, 1), (mX1_findLook, 1, 1), (mX1_isInLine, 1, 2), (mX1_offerLook, 1, 3), (mX11_settle, 11, 5), (mX11_waitLoss, 11, 4), (mX11_now, 11, 4), (mX11_bids, 11, 4), (mX0_findRests, 0, 2), (mX0_addRest, 0, 2), (mX11_has, 11, 4), (mX11_decade, 11, 3), (mX4_liveDecade, 4, 5), (mX6_loseLight, 6, 0)]
set_option maxRecDepth 100000 in
theorem q_VMw3 : ∀ w ∈ q_VM3.flatMap (fun e => [Cond.instanceMethod e.1.2.1, Cond.selects (q_own e.2.1) e.1.2.1 e.1.2.1, Cond.initialized (q_own e.2.1)]), w ∈ q_TB := q_inTB [1302, 1303, 128, 1310, 37, 128, 1317, 1318, 119, 1321, 1322, 127, 1328, 1329, 119, 1332, 1333, 127, 1343, 1344, 119, 1348, 38, 119, 1354, 1355, 119, 1363, 1364, 119, 1367, 1368, 121, 1374, 1375, 119, 1381, 1382, 119, 1386, 39, 119, 1389, 1390, 121, 1394, 40, 119, 1401, 1402, 119, 1407, 41, 119, 1411, 42, 119, 1418, 1419, 119, 1422, 1423, 121, 1429, 1430, 119, 1433, 1434, 121, 1441, 1442, 119, 1445, 1446, 121, 1451, 1452, 121, 1458, 1459, 119, 1462, 1463, 123, 1468, 43, 123, 1479, 44, 123, 1485, 1486, 119, 1496, 45, 119, 1507, 1508, 119, 1514, 1515, 119, 1518, 1519, 130, 1530, 46, 130, 1537, 1538, 119, 1544, 1545, 119, 1548, 1549, 127, 1553, 1554, 125] (by decide +kernel) (by decide +kernel)
set_option maxRecDepth 100000 in
theorem q_VMx3 : ∀ e ∈ q_VM3, e.2.1 < 13 ∧ e.1.2.1.cls = q_own e.2.1 ∧ (e.1.2.1.cls ≠ "java/lang/invoke/MethodHandle" ∧ e.1.2.1.cls ≠ "java/lang/invoke/VarHandle" ∧ (parseMethodDescriptor e.1.2.1.desc).map (fun d => d.parameters.length) = some e.2.2) ∧ e.1.2.2.2.1 + 19 ≤ 64 ∧ plainName e.1.2.1.cls = true ∧ e.1.1 = e.2.1 := by decide +kernel
def q_VM4 : List (q_Mt × Nat × Nat) := [(mX4_owedThen, 4, 1), (mX4_inDefaultThen, 4, 1), (mX11_span, 11, 4), (mX11_brightest, 11, 1), (mX12_thrown, 12, 0), (mX12_clears, 12, 0), (mX12_sets, 12, 0), (mX12_copies, 12, 3), (mX12_lightOf, 12, 2), (mX12_feed, 12, 5), (mX12_fault, 12, 0), (mX12_coast, 12, 1), (mX12_may, 12, 3), (mX12_begins, 12, 1), (mX12_fine, 12, 0), (mX12_isMore, 12, 0), (mX12_here, 12, 0), (mX12_isCreditor, 12, 0), (mX12_standsHere, 12, 1), (mX12_isWedding, 12, 0), (mX12_word, 12, 0), (mX12_wrong, 12, 2), (mX12_pass, 12, 0), (mX12_readCreditor, 12, 0), (mX12_readNumber, 12, 2), (mX12_readWedding, 12, 0), (mX12_readColour, 12, 0), (mX12_colourHere, 12, 0), (mX12_readRow, 12, 1), (mX12_sign, 12, 1), (mX12_result, 12, 1), (mX12_law, 12, 1), (mX12_readSum, 12, 0), (mX12_readProduct, 12, 0), (mX12_readUnit, 12, 0), (mX12_opensOne, 12, 1), (mX12_emit, 12, 2), (mX12_readTwo, 12, 2), (mX12_factHere, 12, 0), (mX12_work, 12, 1)]
set_option maxRecDepth 100000 in
theorem q_VMw4 : ∀ w ∈ q_VM4.flatMap (fun e => [Cond.instanceMethod e.1.2.1, Cond.selects (q_own e.2.1) e.1.2.1 e.1.2.1, Cond.initialized (q_own e.2.1)]), w ∈ q_TB := q_inTB [1557, 1558, 127, 1561, 1562, 127, 1569, 1570, 119, 1577, 1578, 119, 1581, 1582, 131, 1592, 47, 131, 1596, 48, 131, 1600, 49, 131, 1604, 50, 131, 1810, 1811, 131, 1814, 1815, 131, 1818, 1819, 131, 1823, 51, 131, 1827, 52, 131, 1831, 53, 131, 1835, 54, 131, 1839, 55, 131, 1843, 56, 131, 1848, 57, 131, 1857, 58, 131, 1862, 59, 131, 1875, 60, 131, 1879, 61, 131, 1883, 62, 131, 1887, 63, 131, 1894, 64, 131, 1898, 65, 131, 1902, 66, 131, 1910, 67, 131, 1914, 68, 131, 1918, 69, 131, 1921, 1922, 131, 1926, 70, 131, 1930, 71, 131, 1934, 72, 131, 1938, 73, 131, 1942, 74, 131, 1947, 75, 131, 1952, 76, 131, 1961, 1962, 131] (by decide +kernel) (by decide +kernel)
set_option maxRecDepth 100000 in
theorem q_VMx4 : ∀ e ∈ q_VM4, e.2.1 < 13 ∧ e.1.2.1.cls = q_own e.2.1 ∧ (e.1.2.1.cls ≠ "java/lang/invoke/MethodHandle" ∧ e.1.2.1.cls ≠ "java/lang/invoke/VarHandle" ∧ (parseMethodDescriptor e.1.2.1.desc).map (fun d => d.parameters.length) = some e.2.2) ∧ e.1.2.2.2.1 + 19 ≤ 64 ∧ plainName e.1.2.1.cls = true ∧ e.1.1 = e.2.1 := by decide +kernel
def q_VM5 : List (q_Mt × Nat × Nat) := [(mX12_readStep, 12, 0), (mX12_tellsStep, 12, 3), (mX12_take, 12, 0), (mX12_goesSteps, 12, 2), (mX12_goes, 12, 3), (mX12_goesNext, 12, 0), (mX12_passes, 12, 0), (mX12_growsOf, 12, 1), (mX12_lastOf, 12, 1), (mX12_colourOf, 12, 1), (mX12_growsNow, 12, 0), (mX12_valueNow, 12, 0), (mX12_pays, 12, 2), (mX12_book, 12, 1), (mX12_undo, 12, 0), (mX12_told, 12, 1), (mX12_owedAll, 12, 0), (mX12_lateAll, 12, 0), (mX12_creditor, 12, 2), (mX12_isCreditor_, 12, 2), (mX12_owedTo, 12, 2), (mX12_debt, 12, 2), (mX12_isDebt, 12, 2), (mX12_light, 12, 2), (mX12_dusk, 12, 2), (mX12_would, 12, 4), (mX12_grows, 12, 1), (mX12_best, 12, 1), (mX12_canEnd, 12, 1), (mX12_soon, 12, 0), (mX12_paysAll, 12, 0), (mX12_isAhead, 12, 2), (mX12_left, 12, 1), (mX12_delay, 12, 2), (mX12_next, 12, 0), (mX12_matched, 12, 0), (mX12_findWeddings, 12, 0), (mX12_mostWith, 12, 1), (mX12_finds, 12, 2), (mX12_canWed, 12, 2)]
set_option maxRecDepth 100000 in
theorem q_VMw5 : ∀ w ∈ q_VM5.flatMap (fun e => [Cond.instanceMethod e.1.2.1, Cond.selects (q_own e.2.1) e.1.2.1 e.1.2.1, Cond.initialized (q_own e.2.1)]), w ∈ q_TB := q_inTB [1966, 77, 131, 1971, 78, 131, 1978, 79, 131, 1982, 80, 131, 1986, 81, 131, 1990, 82, 131, 1994, 83, 131, 1998, 84, 131, 2002, 85, 131, 2006, 86, 131, 2010, 87, 131, 2014, 88, 131, 2021, 89, 131, 2024, 2025, 131, 2028, 2029, 131, 2032, 2033, 131, 2040, 90, 131, 2044, 91, 131, 2047, 2048, 131, 2052, 92, 131, 2056, 93, 131, 2059, 2060, 131, 2064, 94, 131, 2067, 2068, 131, 2074, 2075, 131, 2081, 2082, 131, 2085, 2086, 131, 2089, 2090, 131, 2094, 95, 131, 2097, 2098, 131, 2102, 96, 131, 2106, 97, 131, 2109, 2110, 131, 2113, 2114, 131, 2117, 2118, 131, 2121, 2122, 131, 2126, 98, 131, 2130, 99, 131, 2134, 100, 131, 2138, 101, 131] (by decide +kernel) (by decide +kernel)
set_option maxRecDepth 100000 in
theorem q_VMx5 : ∀ e ∈ q_VM5, e.2.1 < 13 ∧ e.1.2.1.cls = q_own e.2.1 ∧ (e.1.2.1.cls ≠ "java/lang/invoke/MethodHandle" ∧ e.1.2.1.cls ≠ "java/lang/invoke/VarHandle" ∧ (parseMethodDescriptor e.1.2.1.desc).map (fun d => d.parameters.length) = some e.2.2) ∧ e.1.2.2.2.1 + 19 ≤ 64 ∧ plainName e.1.2.1.cls = true ∧ e.1.1 = e.2.1 := by decide +kernel
def q_VM6 : List (q_Mt × Nat × Nat) := [(mX12_isTaken, 12, 2), (mX12_weds, 12, 1), (mX12_isWedding_, 12, 2), (mX12_choices, 12, 1), (mX12_sees, 12, 1), (mX12_seesFrom, 12, 2), (mX12_eyes, 12, 1), (mX12_chairs, 12, 2), (mX12_chairsOn, 12, 4), (mX12_gets, 12, 4), (mX12_levelled, 12, 2), (mX12_owes, 12, 2), (mX12_net, 12, 1), (mX12_netOf, 12, 1), (mX12_struck, 12, 1), (mX12_moved, 12, 0), (mX12_movedNow, 12, 0), (mX12_look, 12, 1), (mX12_isSeen, 12, 2), (mX12_worstAt, 12, 3), (mX12_settle, 12, 5), (mX12_losesOf, 12, 4), (mX12_waits, 12, 4), (mX12_now, 12, 4), (mX12_bids, 12, 4), (mX12_has, 12, 4), (mX12_decade, 12, 3), (mX12_goesOn, 12, 2), (mX12_draws, 12, 0), (mX12_spentIn, 12, 1), (mX12_span, 12, 4), (mX12_greatest, 12, 0), (mX12_brightest, 12, 1), (mX12_image, 12, 0), (mX12_keepsAll, 12, 2), (mX12_keepsRow, 12, 4), (mX12_restore, 12, 0), (mX12_status, 12, 1), (mX12_count, 12, 1)]
set_option maxRecDepth 100000 in
theorem q_VMw6 : ∀ w ∈ q_VM6.flatMap (fun e => [Cond.instanceMethod e.1.2.1, Cond.selects (q_own e.2.1) e.1.2.1 e.1.2.1, Cond.initialized (q_own e.2.1)]), w ∈ q_TB := q_inTB [2142, 102, 131, 2145, 2146, 131, 2150, 103, 131, 2153, 2154, 131, 2157, 2158, 131, 2162, 104, 131, 2165, 2166, 131, 2169, 2170, 131, 2174, 105, 131, 2177, 2178, 131, 2183, 106, 131, 2186, 2187, 131, 2190, 2191, 131, 2195, 107, 131, 2198, 2199, 131, 2202, 2203, 131, 2207, 108, 131, 2210, 2211, 131, 2215, 109, 131, 2219, 110, 131, 2222, 2223, 131, 2233, 111, 131, 2237, 112, 131, 2243, 2244, 131, 2247, 2248, 131, 2257, 2258, 131, 2261, 2262, 131, 2266, 113, 131, 2270, 114, 131, 2275, 115, 131, 2278, 2279, 131, 2282, 2283, 131, 2286, 2287, 131, 2290, 2291, 131, 2295, 116, 131, 2299, 117, 131, 2302, 2303, 131, 2306, 2307, 131, 2310, 2311, 131] (by decide +kernel) (by decide +kernel)
set_option maxRecDepth 100000 in
theorem q_VMx6 : ∀ e ∈ q_VM6, e.2.1 < 13 ∧ e.1.2.1.cls = q_own e.2.1 ∧ (e.1.2.1.cls ≠ "java/lang/invoke/MethodHandle" ∧ e.1.2.1.cls ≠ "java/lang/invoke/VarHandle" ∧ (parseMethodDescriptor e.1.2.1.desc).map (fun d => d.parameters.length) = some e.2.2) ∧ e.1.2.2.2.1 + 19 ≤ 64 ∧ plainName e.1.2.1.cls = true ∧ e.1.1 = e.2.1 := by decide +kernel
def q_SM0 : List (q_Mt × Nat) := [(mX5_joined, 3), (mX10_isLetter, 1), (mJ3_checkIndex_8e157, 3), (mX2_admit, 3), (mX10_isDigit, 1), (mX5_mayOpen, 2), (mX11_isIn, 3), (mX11_isColour, 1), (mX11_isDusk, 1), (mX1_mostAlike, 4), (mX1_alike, 5), (mX11_areSettleable, 4), (mX11_payOff, 2), (mX0_bestGain, 3), (mX0_gain, 3), (mX12_isSmall, 1), (mX12_of, 1), (mX12_isDigit, 1), (mX12_both, 3), (mX12_within, 3), (mX12_isColour, 1), (mX12_isDusk, 1), (mX12_isSettled, 4), (mX12_zero, 1), (mX12_least, 3), (mX12_isBest, 4), (mX12_hasOf, 3)]
set_option maxRecDepth 100000 in
theorem q_SMw0 : ∀ w ∈ q_SM0.flatMap (fun e => [Cond.static e.1.2.1, Cond.initialized e.1.2.1.cls]), w ∈ q_TB := q_inTB [635, 122, 823, 120, 861, 140, 883, 121, 898, 120, 1051, 122, 1178, 119, 1251, 119, 1272, 119, 1471, 123, 1474, 123, 1489, 119, 1492, 119, 1522, 130, 1525, 130, 1853, 131, 1866, 131, 1890, 131, 2017, 131, 2036, 131, 2071, 131, 2078, 131, 2226, 131, 2229, 131, 2240, 131, 2251, 131, 2254, 131] (by decide +kernel) (by decide +kernel)
set_option maxRecDepth 100000 in
theorem q_SMx0 : ∀ e ∈ q_SM0, (e.1.2.1.cls ≠ "java/lang/invoke/MethodHandle" ∧ e.1.2.1.cls ≠ "java/lang/invoke/VarHandle" ∧ (parseMethodDescriptor e.1.2.1.desc).map (fun d => d.parameters.length) = some e.2) ∧ e.1.2.2.2.1 + 19 ≤ 64 ∧ plainName e.1.2.1.cls = true ∧ e.1.2.1.cls = q_own e.1.1 := by decide +kernel
theorem q_mkV {l : List (q_Mt × Nat × Nat)} (hw : ∀ w ∈ l.flatMap (fun e => [Cond.instanceMethod e.1.2.1, Cond.selects (q_own e.2.1) e.1.2.1 e.1.2.1, Cond.initialized (q_own e.2.1)]), w ∈ q_TB)
    (hx : ∀ e ∈ l, e.2.1 < 13 ∧ e.1.2.1.cls = q_own e.2.1 ∧ (e.1.2.1.cls ≠ "java/lang/invoke/MethodHandle" ∧ e.1.2.1.cls ≠ "java/lang/invoke/VarHandle" ∧ (parseMethodDescriptor e.1.2.1.desc).map (fun d => d.parameters.length) = some e.2.2) ∧ e.1.2.2.2.1 + 19 ≤ 64 ∧ plainName e.1.2.1.cls = true ∧ e.1.1 = e.2.1) {M : q_Mt} {x k : Nat} (hc : Cond.code M.2.1 M.2.2.1 M.2.2.2.1 M.2.2.2.2 ∈ q_TB) (i : Nat) (h : l[i]? = some (M, x, k)) : q_mokV M x k := by
  have hm := List.mem_of_getElem? h
  obtain ⟨h1, h2, h3, h4, -⟩ := hx _ hm
  refine ⟨h1, h2, fun w h9 => ?_, h3, h4⟩
  rcases List.mem_append.mp (show w ∈ [Cond.instanceMethod M.2.1, Cond.selects (q_own x) M.2.1 M.2.1, Cond.initialized (q_own x)] ++ [Cond.code M.2.1 M.2.2.1 M.2.2.2.1 M.2.2.2.2] from h9) with h9 | h9
  · exact hw w (List.mem_flatMap.mpr ⟨_, hm, h9⟩)
  · rw [List.mem_singleton.mp h9]; exact hc
theorem q_mkS {l : List (q_Mt × Nat)} (hw : ∀ w ∈ l.flatMap (fun e => [Cond.static e.1.2.1, Cond.initialized e.1.2.1.cls]), w ∈ q_TB)
    (hx : ∀ e ∈ l, (e.1.2.1.cls ≠ "java/lang/invoke/MethodHandle" ∧ e.1.2.1.cls ≠ "java/lang/invoke/VarHandle" ∧ (parseMethodDescriptor e.1.2.1.desc).map (fun d => d.parameters.length) = some e.2) ∧ e.1.2.2.2.1 + 19 ≤ 64 ∧ plainName e.1.2.1.cls = true ∧ e.1.2.1.cls = q_own e.1.1) {M : q_Mt} {k : Nat} (hc : Cond.code M.2.1 M.2.2.1 M.2.2.2.1 M.2.2.2.2 ∈ q_TB) (i : Nat) (h : l[i]? = some (M, k)) : q_mokS M k := by
  have hm := List.mem_of_getElem? h
  obtain ⟨h1, h2, -⟩ := hx _ hm
  refine ⟨fun w h9 => ?_, h1, h2⟩
  rcases List.mem_append.mp (show w ∈ [Cond.static M.2.1, Cond.initialized M.2.1.cls] ++ [Cond.code M.2.1 M.2.2.1 M.2.2.2.1 M.2.2.2.2] from h9) with h9 | h9
  · exact hw w (List.mem_flatMap.mpr ⟨_, hm, h9⟩)
  · rw [List.mem_singleton.mp h9]; exact hc
theorem kX5_setPlain : q_mokV mX5_setPlain 5 0 := q_mkV q_VMw0 q_VMx0 (q_tb1 (List.mem_of_getElem? (i := 169) rfl) rfl) 0 rfl
theorem kX5_emit : q_mokV mX5_emit 5 1 := q_mkV q_VMw0 q_VMx0 (q_tb1 (List.mem_of_getElem? (i := 173) rfl) rfl) 1 rfl
theorem kX11_feed : q_mokV mX11_feed 11 5 := q_mkV q_VMw0 q_VMx0 (q_tb2 (List.mem_of_getElem? (i := 180) rfl) rfl) 2 rfl
theorem kX10_size : q_mokV mX10_size 10 0 := q_mkV q_VMw0 q_VMx0 (q_tb2 (List.mem_of_getElem? (i := 184) rfl) rfl) 3 rfl
theorem kX10_put : q_mokV mX10_put 10 1 := q_mkV q_VMw0 q_VMx0 (q_tb2 (List.mem_of_getElem? (i := 188) rfl) rfl) 4 rfl
theorem kX11_fault : q_mokV mX11_fault 11 0 := q_mkV q_VMw0 q_VMx0 (q_tb2 (List.mem_of_getElem? (i := 192) rfl) rfl) 5 rfl
theorem kX10_faultPlace : q_mokV mX10_faultPlace 10 0 := q_mkV q_VMw0 q_VMx0 (q_tb2 (List.mem_of_getElem? (i := 196) rfl) rfl) 6 rfl
theorem kX11_undo : q_mokV mX11_undo 11 0 := q_mkV q_VMw0 q_VMx0 (q_tb2 (List.mem_of_getElem? (i := 200) rfl) rfl) 7 rfl
theorem kX8_size : q_mokV mX8_size 8 0 := q_mkV q_VMw0 q_VMx0 (q_tb2 (List.mem_of_getElem? (i := 204) rfl) rfl) 8 rfl
theorem kX8_pop : q_mokV mX8_pop 8 1 := q_mkV q_VMw0 q_VMx0 (q_tb2 (List.mem_of_getElem? (i := 208) rfl) rfl) 9 rfl
theorem kX11_soon : q_mokV mX11_soon 11 0 := q_mkV q_VMw0 q_VMx0 (q_tb2 (List.mem_of_getElem? (i := 215) rfl) rfl) 10 rfl
theorem kX4_duskOfNothingOwed : q_mokV mX4_duskOfNothingOwed 4 3 := q_mkV q_VMw0 q_VMx0 (q_tb2 (List.mem_of_getElem? (i := 219) rfl) rfl) 11 rfl
theorem kX6_copy : q_mokV mX6_copy 6 1 := q_mkV q_VMw0 q_VMx0 (q_tb2 (List.mem_of_getElem? (i := 223) rfl) rfl) 12 rfl
theorem kX6_payByTerm : q_mokV mX6_payByTerm 6 1 := q_mkV q_VMw0 q_VMx0 (q_tb2 (List.mem_of_getElem? (i := 228) rfl) rfl) 13 rfl
theorem kX6_owed : q_mokV mX6_owed 6 1 := q_mkV q_VMw0 q_VMx0 (q_tb2 (List.mem_of_getElem? (i := 232) rfl) rfl) 14 rfl
theorem kX6_unspent : q_mokV mX6_unspent 6 1 := q_mkV q_VMw0 q_VMx0 (q_tb2 (List.mem_of_getElem? (i := 236) rfl) rfl) 15 rfl
theorem kX6_pay : q_mokV mX6_pay 6 3 := q_mkV q_VMw0 q_VMx0 (q_tb3 (List.mem_of_getElem? (i := 3) rfl) rfl) 16 rfl
theorem kX6_owedInAll : q_mokV mX6_owedInAll 6 1 := q_mkV q_VMw0 q_VMx0 (q_tb3 (List.mem_of_getElem? (i := 7) rfl) rfl) 17 rfl
theorem kX6_today : q_mokV mX6_today 6 0 := q_mkV q_VMw0 q_VMx0 (q_tb3 (List.mem_of_getElem? (i := 11) rfl) rfl) 18 rfl
theorem kX6_pass : q_mokV mX6_pass 6 2 := q_mkV q_VMw0 q_VMx0 (q_tb3 (List.mem_of_getElem? (i := 15) rfl) rfl) 19 rfl
theorem kX6_paidToday : q_mokV mX6_paidToday 6 1 := q_mkV q_VMw0 q_VMx0 (q_tb3 (List.mem_of_getElem? (i := 20) rfl) rfl) 20 rfl
theorem kX6_growthOf : q_mokV mX6_growthOf 6 6 := q_mkV q_VMw0 q_VMx0 (q_tb3 (List.mem_of_getElem? (i := 24) rfl) rfl) 21 rfl
theorem kX6_holder : q_mokV mX6_holder 6 1 := q_mkV q_VMw0 q_VMx0 (q_tb3 (List.mem_of_getElem? (i := 31) rfl) rfl) 22 rfl
theorem kX5_growth : q_mokV mX5_growth 5 7 := q_mkV q_VMw0 q_VMx0 (q_tb3 (List.mem_of_getElem? (i := 35) rfl) rfl) 23 rfl
theorem kX6_takeLight : q_mokV mX6_takeLight 6 1 := q_mkV q_VMw0 q_VMx0 (q_tb3 (List.mem_of_getElem? (i := 44) rfl) rfl) 24 rfl
theorem kX2_shine : q_mokV mX2_shine 2 2 := q_mkV q_VMw0 q_VMx0 (q_tb3 (List.mem_of_getElem? (i := 48) rfl) rfl) 25 rfl
theorem kX11_next : q_mokV mX11_next 11 0 := q_mkV q_VMw0 q_VMx0 (q_tb3 (List.mem_of_getElem? (i := 52) rfl) rfl) 26 rfl
theorem kX6_firstDue : q_mokV mX6_firstDue 6 1 := q_mkV q_VMw0 q_VMx0 (q_tb3 (List.mem_of_getElem? (i := 56) rfl) rfl) 27 rfl
theorem kX11_matched : q_mokV mX11_matched 11 0 := q_mkV q_VMw0 q_VMx0 (q_tb3 (List.mem_of_getElem? (i := 60) rfl) rfl) 28 rfl
theorem kX11_moved : q_mokV mX11_moved 11 0 := q_mkV q_VMw0 q_VMx0 (q_tb3 (List.mem_of_getElem? (i := 64) rfl) rfl) 29 rfl
theorem kX1_rightMoves : q_mokV mX1_rightMoves 1 1 := q_mkV q_VMw0 q_VMx0 (q_tb3 (List.mem_of_getElem? (i := 68) rfl) rfl) 30 rfl
theorem kX1_isRight : q_mokV mX1_isRight 1 2 := q_mkV q_VMw0 q_VMx0 (q_tb3 (List.mem_of_getElem? (i := 72) rfl) rfl) 31 rfl
theorem kX11_greatest : q_mokV mX11_greatest 11 0 := q_mkV q_VMw0 q_VMx0 (q_tb3 (List.mem_of_getElem? (i := 77) rfl) rfl) 32 rfl
theorem kX6_owedTo : q_mokV mX6_owedTo 6 2 := q_mkV q_VMw0 q_VMx0 (q_tb3 (List.mem_of_getElem? (i := 81) rfl) rfl) 33 rfl
theorem kX6_claim : q_mokV mX6_claim 6 3 := q_mkV q_VMw0 q_VMx0 (q_tb3 (List.mem_of_getElem? (i := 85) rfl) rfl) 34 rfl
theorem kX11_image : q_mokV mX11_image 11 0 := q_mkV q_VMw0 q_VMx0 (q_tb3 (List.mem_of_getElem? (i := 89) rfl) rfl) 35 rfl
theorem kX8_copy : q_mokV mX8_copy 8 1 := q_mkV q_VMw0 q_VMx0 (q_tb3 (List.mem_of_getElem? (i := 93) rfl) rfl) 36 rfl
theorem kX8_push : q_mokV mX8_push 8 1 := q_mkV q_VMw0 q_VMx0 (q_tb3 (List.mem_of_getElem? (i := 97) rfl) rfl) 37 rfl
theorem kX11_restore : q_mokV mX11_restore 11 0 := q_mkV q_VMw0 q_VMx0 (q_tb3 (List.mem_of_getElem? (i := 101) rfl) rfl) 38 rfl
theorem kX11_status : q_mokV mX11_status 11 1 := q_mkV q_VMw0 q_VMx0 (q_tb3 (List.mem_of_getElem? (i := 105) rfl) rfl) 39 rfl
theorem kX11_count : q_mokV mX11_count 11 1 := q_mkV q_VMw1 q_VMx1 (q_tb3 (List.mem_of_getElem? (i := 109) rfl) rfl) 0 rfl
theorem kX11_coast : q_mokV mX11_coast 11 1 := q_mkV q_VMw1 q_VMx1 (q_tb3 (List.mem_of_getElem? (i := 117) rfl) rfl) 1 rfl
theorem kX11_openText : q_mokV mX11_openText 11 2 := q_mkV q_VMw1 q_VMx1 (q_tb3 (List.mem_of_getElem? (i := 121) rfl) rfl) 2 rfl
theorem kX11_require : q_mokV mX11_require 11 1 := q_mkV q_VMw1 q_VMx1 (q_tb3 (List.mem_of_getElem? (i := 125) rfl) rfl) 3 rfl
theorem kX10_open : q_mokV mX10_open 10 1 := q_mkV q_VMw1 q_VMx1 (q_tb3 (List.mem_of_getElem? (i := 191) rfl) rfl) 4 rfl
theorem kX2_read : q_mokV mX2_read 2 1 := q_mkV q_VMw1 q_VMx1 (q_tb3 (List.mem_of_getElem? (i := 196) rfl) rfl) 5 rfl
theorem kX2_clear : q_mokV mX2_clear 2 0 := q_mkV q_VMw1 q_VMx1 (q_tb3 (List.mem_of_getElem? (i := 200) rfl) rfl) 6 rfl
theorem kX10_goesOn : q_mokV mX10_goesOn 10 0 := q_mkV q_VMw1 q_VMx1 (q_tb3 (List.mem_of_getElem? (i := 207) rfl) rfl) 7 rfl
theorem kX10_skipBlanks : q_mokV mX10_skipBlanks 10 0 := q_mkV q_VMw1 q_VMx1 (q_tb3 (List.mem_of_getElem? (i := 211) rfl) rfl) 8 rfl
theorem kX2_readClause : q_mokV mX2_readClause 2 2 := q_mkV q_VMw1 q_VMx1 (q_tb3 (List.mem_of_getElem? (i := 215) rfl) rfl) 9 rfl
theorem kX10_word : q_mokV mX10_word 10 0 := q_mkV q_VMw1 q_VMx1 (q_tb3 (List.mem_of_getElem? (i := 219) rfl) rfl) 10 rfl
theorem kX10_peek : q_mokV mX10_peek 10 0 := q_mkV q_VMw1 q_VMx1 (q_tb3 (List.mem_of_getElem? (i := 223) rfl) rfl) 11 rfl
theorem kX10_startOfLast : q_mokV mX10_startOfLast 10 0 := q_mkV q_VMw1 q_VMx1 (q_tb3 (List.mem_of_getElem? (i := 230) rfl) rfl) 12 rfl
theorem kX10_was : q_mokV mX10_was 10 1 := q_mkV q_VMw1 q_VMx1 (q_tb3 (List.mem_of_getElem? (i := 235) rfl) rfl) 13 rfl
theorem kX10_blame : q_mokV mX10_blame 10 2 := q_mkV q_VMw1 q_VMx1 (q_tb4 (List.mem_of_getElem? (i := 50) rfl) rfl) 14 rfl
theorem kX2_readCreditor : q_mokV mX2_readCreditor 2 1 := q_mkV q_VMw1 q_VMx1 (q_tb4 (List.mem_of_getElem? (i := 54) rfl) rfl) 15 rfl
theorem kX10_number : q_mokV mX10_number 10 2 := q_mkV q_VMw1 q_VMx1 (q_tb4 (List.mem_of_getElem? (i := 58) rfl) rfl) 16 rfl
theorem kX10_failed : q_mokV mX10_failed 10 0 := q_mkV q_VMw1 q_VMx1 (q_tb4 (List.mem_of_getElem? (i := 66) rfl) rfl) 17 rfl
theorem kX2_readDebt : q_mokV mX2_readDebt 2 1 := q_mkV q_VMw1 q_VMx1 (q_tb4 (List.mem_of_getElem? (i := 71) rfl) rfl) 18 rfl
theorem kX10_colour : q_mokV mX10_colour 10 0 := q_mkV q_VMw1 q_VMx1 (q_tb4 (List.mem_of_getElem? (i := 75) rfl) rfl) 19 rfl
theorem kX2_readDusk : q_mokV mX2_readDusk 2 1 := q_mkV q_VMw1 q_VMx1 (q_tb4 (List.mem_of_getElem? (i := 86) rfl) rfl) 20 rfl
theorem kX2_readRidge : q_mokV mX2_readRidge 2 1 := q_mkV q_VMw1 q_VMx1 (q_tb4 (List.mem_of_getElem? (i := 91) rfl) rfl) 21 rfl
theorem kX2_readLamp : q_mokV mX2_readLamp 2 1 := q_mkV q_VMw1 q_VMx1 (q_tb4 (List.mem_of_getElem? (i := 96) rfl) rfl) 22 rfl
theorem kX2_readWedding : q_mokV mX2_readWedding 2 1 := q_mkV q_VMw1 q_VMx1 (q_tb4 (List.mem_of_getElem? (i := 101) rfl) rfl) 23 rfl
theorem kX2_readFog : q_mokV mX2_readFog 2 1 := q_mkV q_VMw1 q_VMx1 (q_tb4 (List.mem_of_getElem? (i := 106) rfl) rfl) 24 rfl
theorem kX2_readLoan : q_mokV mX2_readLoan 2 1 := q_mkV q_VMw1 q_VMx1 (q_tb4 (List.mem_of_getElem? (i := 111) rfl) rfl) 25 rfl
theorem kX10_need : q_mokV mX10_need 10 1 := q_mkV q_VMw1 q_VMx1 (q_tb4 (List.mem_of_getElem? (i := 116) rfl) rfl) 26 rfl
theorem kX10_takes : q_mokV mX10_takes 10 1 := q_mkV q_VMw1 q_VMx1 (q_tb4 (List.mem_of_getElem? (i := 120) rfl) rfl) 27 rfl
theorem kX2_orderByTerm : q_mokV mX2_orderByTerm 2 0 := q_mkV q_VMw1 q_VMx1 (q_tb4 (List.mem_of_getElem? (i := 124) rfl) rfl) 28 rfl
theorem kX10_faultKind : q_mokV mX10_faultKind 10 0 := q_mkV q_VMw1 q_VMx1 (q_tb4 (List.mem_of_getElem? (i := 129) rfl) rfl) 29 rfl
theorem kX11_startAnew : q_mokV mX11_startAnew 11 0 := q_mkV q_VMw1 q_VMx1 (q_tb4 (List.mem_of_getElem? (i := 133) rfl) rfl) 30 rfl
theorem kX1_clear : q_mokV mX1_clear 1 0 := q_mkV q_VMw1 q_VMx1 (q_tb4 (List.mem_of_getElem? (i := 138) rfl) rfl) 31 rfl
theorem kX8_clear : q_mokV mX8_clear 8 0 := q_mkV q_VMw1 q_VMx1 (q_tb4 (List.mem_of_getElem? (i := 142) rfl) rfl) 32 rfl
theorem kX6_start : q_mokV mX6_start 6 1 := q_mkV q_VMw1 q_VMx1 (q_tb4 (List.mem_of_getElem? (i := 146) rfl) rfl) 33 rfl
theorem kX7_match : q_mokV mX7_match 7 1 := q_mkV q_VMw1 q_VMx1 (q_tb4 (List.mem_of_getElem? (i := 151) rfl) rfl) 34 rfl
theorem kX7_findFitting : q_mokV mX7_findFitting 7 1 := q_mkV q_VMw1 q_VMx1 (q_tb4 (List.mem_of_getElem? (i := 155) rfl) rfl) 35 rfl
theorem kX2_fittingDusks : q_mokV mX2_fittingDusks 2 1 := q_mkV q_VMw1 q_VMx1 (q_tb4 (List.mem_of_getElem? (i := 159) rfl) rfl) 36 rfl
theorem kX7_mostMatched : q_mokV mX7_mostMatched 7 2 := q_mkV q_VMw1 q_VMx1 (q_tb4 (List.mem_of_getElem? (i := 164) rfl) rfl) 37 rfl
theorem kX7_firstDay : q_mokV mX7_firstDay 7 4 := q_mkV q_VMw1 q_VMx1 (q_tb4 (List.mem_of_getElem? (i := 182) rfl) rfl) 38 rfl
theorem kX11_law : q_mokV mX11_law 11 1 := q_mkV q_VMw1 q_VMx1 (q_tb4 (List.mem_of_getElem? (i := 189) rfl) rfl) 39 rfl
theorem kX5_read : q_mokV mX5_read 5 1 := q_mkV q_VMw2 q_VMx2 (q_tb4 (List.mem_of_getElem? (i := 193) rfl) rfl) 0 rfl
theorem kX5_readSum : q_mokV mX5_readSum 5 2 := q_mkV q_VMw2 q_VMx2 (q_tb4 (List.mem_of_getElem? (i := 197) rfl) rfl) 1 rfl
theorem kX5_readProduct : q_mokV mX5_readProduct 5 2 := q_mkV q_VMw2 q_VMx2 (q_tb4 (List.mem_of_getElem? (i := 201) rfl) rfl) 2 rfl
theorem kX5_readUnit : q_mokV mX5_readUnit 5 2 := q_mkV q_VMw2 q_VMx2 (q_tb4 (List.mem_of_getElem? (i := 205) rfl) rfl) 3 rfl
theorem kX10_isAtDigit : q_mokV mX10_isAtDigit 10 0 := q_mkV q_VMw2 q_VMx2 (q_tb4 (List.mem_of_getElem? (i := 209) rfl) rfl) 4 rfl
theorem kX5_readPair : q_mokV mX5_readPair 5 3 := q_mkV q_VMw2 q_VMx2 (q_tb4 (List.mem_of_getElem? (i := 225) rfl) rfl) 5 rfl
theorem kX5_readName : q_mokV mX5_readName 5 1 := q_mkV q_VMw2 q_VMx2 (q_tb4 (List.mem_of_getElem? (i := 230) rfl) rfl) 6 rfl
theorem kX10_needEnd : q_mokV mX10_needEnd 10 0 := q_mkV q_VMw2 q_VMx2 (q_tb5 (List.mem_of_getElem? (i := 1) rfl) rfl) 7 rfl
theorem kX11_work : q_mokV mX11_work 11 1 := q_mkV q_VMw2 q_VMx2 (q_tb5 (List.mem_of_getElem? (i := 8) rfl) rfl) 8 rfl
theorem kX9_read : q_mokV mX9_read 9 2 := q_mkV q_VMw2 q_VMx2 (q_tb5 (List.mem_of_getElem? (i := 12) rfl) rfl) 9 rfl
theorem kX9_readStep : q_mokV mX9_readStep 9 3 := q_mkV q_VMw2 q_VMx2 (q_tb5 (List.mem_of_getElem? (i := 17) rfl) rfl) 10 rfl
theorem kX9_add : q_mokV mX9_add 9 3 := q_mkV q_VMw2 q_VMx2 (q_tb5 (List.mem_of_getElem? (i := 25) rfl) rfl) 11 rfl
theorem kX9_readAgain : q_mokV mX9_readAgain 9 3 := q_mkV q_VMw2 q_VMx2 (q_tb5 (List.mem_of_getElem? (i := 35) rfl) rfl) 12 rfl
theorem kX9_run : q_mokV mX9_run 9 3 := q_mkV q_VMw2 q_VMx2 (q_tb5 (List.mem_of_getElem? (i := 44) rfl) rfl) 13 rfl
theorem kX9_runSteps : q_mokV mX9_runSteps 9 5 := q_mkV q_VMw2 q_VMx2 (q_tb5 (List.mem_of_getElem? (i := 48) rfl) rfl) 14 rfl
theorem kX9_isDone : q_mokV mX9_isDone 9 4 := q_mkV q_VMw2 q_VMx2 (q_tb5 (List.mem_of_getElem? (i := 53) rfl) rfl) 15 rfl
theorem kX6_borrow : q_mokV mX6_borrow 6 3 := q_mkV q_VMw2 q_VMx2 (q_tb5 (List.mem_of_getElem? (i := 59) rfl) rfl) 16 rfl
theorem kX6_lent : q_mokV mX6_lent 6 1 := q_mkV q_VMw2 q_VMx2 (q_tb5 (List.mem_of_getElem? (i := 63) rfl) rfl) 17 rfl
theorem kX6_handOn : q_mokV mX6_handOn 6 2 := q_mkV q_VMw2 q_VMx2 (q_tb5 (List.mem_of_getElem? (i := 67) rfl) rfl) 18 rfl
theorem kX11_book : q_mokV mX11_book 11 1 := q_mkV q_VMw2 q_VMx2 (q_tb5 (List.mem_of_getElem? (i := 75) rfl) rfl) 19 rfl
theorem kX1_read : q_mokV mX1_read 1 1 := q_mkV q_VMw2 q_VMx2 (q_tb5 (List.mem_of_getElem? (i := 79) rfl) rfl) 20 rfl
theorem kX1_readLine : q_mokV mX1_readLine 1 1 := q_mkV q_VMw2 q_VMx2 (q_tb5 (List.mem_of_getElem? (i := 85) rfl) rfl) 21 rfl
theorem kX11_told : q_mokV mX11_told 11 1 := q_mkV q_VMw2 q_VMx2 (q_tb5 (List.mem_of_getElem? (i := 98) rfl) rfl) 22 rfl
theorem kX6_inDefault : q_mokV mX6_inDefault 6 1 := q_mkV q_VMw2 q_VMx2 (q_tb5 (List.mem_of_getElem? (i := 107) rfl) rfl) 23 rfl
theorem kX6_defaulted : q_mokV mX6_defaulted 6 1 := q_mkV q_VMw2 q_VMx2 (q_tb5 (List.mem_of_getElem? (i := 111) rfl) rfl) 24 rfl
theorem kX11_creditor : q_mokV mX11_creditor 11 2 := q_mkV q_VMw2 q_VMx2 (q_tb5 (List.mem_of_getElem? (i := 119) rfl) rfl) 25 rfl
theorem kX11_requireCreditor : q_mokV mX11_requireCreditor 11 1 := q_mkV q_VMw2 q_VMx2 (q_tb5 (List.mem_of_getElem? (i := 123) rfl) rfl) 26 rfl
theorem kX11_requireSuch : q_mokV mX11_requireSuch 11 1 := q_mkV q_VMw2 q_VMx2 (q_tb5 (List.mem_of_getElem? (i := 127) rfl) rfl) 27 rfl
theorem kX6_debtsTo : q_mokV mX6_debtsTo 6 2 := q_mkV q_VMw2 q_VMx2 (q_tb5 (List.mem_of_getElem? (i := 146) rfl) rfl) 28 rfl
theorem kX11_debt : q_mokV mX11_debt 11 2 := q_mkV q_VMw2 q_VMx2 (q_tb5 (List.mem_of_getElem? (i := 153) rfl) rfl) 29 rfl
theorem kX11_requireDebt : q_mokV mX11_requireDebt 11 1 := q_mkV q_VMw2 q_VMx2 (q_tb5 (List.mem_of_getElem? (i := 157) rfl) rfl) 30 rfl
theorem kX6_paid : q_mokV mX6_paid 6 1 := q_mkV q_VMw2 q_VMx2 (q_tb5 (List.mem_of_getElem? (i := 164) rfl) rfl) 31 rfl
theorem kX11_light : q_mokV mX11_light 11 2 := q_mkV q_VMw2 q_VMx2 (q_tb5 (List.mem_of_getElem? (i := 171) rfl) rfl) 32 rfl
theorem kX6_owedOf : q_mokV mX6_owedOf 6 2 := q_mkV q_VMw2 q_VMx2 (q_tb5 (List.mem_of_getElem? (i := 180) rfl) rfl) 33 rfl
theorem kX6_paidOf : q_mokV mX6_paidOf 6 2 := q_mkV q_VMw2 q_VMx2 (q_tb5 (List.mem_of_getElem? (i := 184) rfl) rfl) 34 rfl
theorem kX11_dusk : q_mokV mX11_dusk 11 2 := q_mkV q_VMw2 q_VMx2 (q_tb5 (List.mem_of_getElem? (i := 192) rfl) rfl) 35 rfl
theorem kX11_would : q_mokV mX11_would 11 4 := q_mkV q_VMw2 q_VMx2 (q_tb5 (List.mem_of_getElem? (i := 203) rfl) rfl) 36 rfl
theorem kX11_grows : q_mokV mX11_grows 11 1 := q_mkV q_VMw2 q_VMx2 (q_tb5 (List.mem_of_getElem? (i := 211) rfl) rfl) 37 rfl
theorem kX6_growth : q_mokV mX6_growth 6 3 := q_mkV q_VMw2 q_VMx2 (q_tb5 (List.mem_of_getElem? (i := 215) rfl) rfl) 38 rfl
theorem kX11_best : q_mokV mX11_best 11 1 := q_mkV q_VMw2 q_VMx2 (q_tb5 (List.mem_of_getElem? (i := 222) rfl) rfl) 39 rfl
theorem kX3_choose : q_mokV mX3_choose 3 3 := q_mkV q_VMw3 q_VMx3 (q_tb5 (List.mem_of_getElem? (i := 226) rfl) rfl) 0 rfl
theorem kX3_branch : q_mokV mX3_branch 3 5 := q_mkV q_VMw3 q_VMx3 (q_tb5 (List.mem_of_getElem? (i := 233) rfl) rfl) 1 rfl
theorem kX11_left : q_mokV mX11_left 11 1 := q_mkV q_VMw3 q_VMx3 (q_tb6 (List.mem_of_getElem? (i := 1) rfl) rfl) 2 rfl
theorem kX4_owedBehind : q_mokV mX4_owedBehind 4 4 := q_mkV q_VMw3 q_VMx3 (q_tb6 (List.mem_of_getElem? (i := 5) rfl) rfl) 3 rfl
theorem kX11_delay : q_mokV mX11_delay 11 2 := q_mkV q_VMw3 q_VMx3 (q_tb6 (List.mem_of_getElem? (i := 12) rfl) rfl) 4 rfl
theorem kX4_dusksToWait : q_mokV mX4_dusksToWait 4 5 := q_mkV q_VMw3 q_VMx3 (q_tb6 (List.mem_of_getElem? (i := 16) rfl) rfl) 5 rfl
theorem kX11_weds : q_mokV mX11_weds 11 1 := q_mkV q_VMw3 q_VMx3 (q_tb6 (List.mem_of_getElem? (i := 27) rfl) rfl) 6 rfl
theorem kX11_requireWedding : q_mokV mX11_requireWedding 11 1 := q_mkV q_VMw3 q_VMx3 (q_tb6 (List.mem_of_getElem? (i := 31) rfl) rfl) 7 rfl
theorem kX11_choices : q_mokV mX11_choices 11 1 := q_mkV q_VMw3 q_VMx3 (q_tb6 (List.mem_of_getElem? (i := 38) rfl) rfl) 8 rfl
theorem kX11_sees : q_mokV mX11_sees 11 1 := q_mkV q_VMw3 q_VMx3 (q_tb6 (List.mem_of_getElem? (i := 47) rfl) rfl) 9 rfl
theorem kX2_showsSea : q_mokV mX2_showsSea 2 2 := q_mkV q_VMw3 q_VMx3 (q_tb6 (List.mem_of_getElem? (i := 51) rfl) rfl) 10 rfl
theorem kX11_eyes : q_mokV mX11_eyes 11 1 := q_mkV q_VMw3 q_VMx3 (q_tb6 (List.mem_of_getElem? (i := 58) rfl) rfl) 11 rfl
theorem kX11_chairs : q_mokV mX11_chairs 11 2 := q_mkV q_VMw3 q_VMx3 (q_tb6 (List.mem_of_getElem? (i := 65) rfl) rfl) 12 rfl
theorem kX11_fewestChairs : q_mokV mX11_fewestChairs 11 2 := q_mkV q_VMw3 q_VMx3 (q_tb6 (List.mem_of_getElem? (i := 69) rfl) rfl) 13 rfl
theorem kX2_firstSeat : q_mokV mX2_firstSeat 2 1 := q_mkV q_VMw3 q_VMx3 (q_tb6 (List.mem_of_getElem? (i := 73) rfl) rfl) 14 rfl
theorem kX11_firstChairs : q_mokV mX11_firstChairs 11 1 := q_mkV q_VMw3 q_VMx3 (q_tb6 (List.mem_of_getElem? (i := 77) rfl) rfl) 15 rfl
theorem kX11_gets : q_mokV mX11_gets 11 4 := q_mkV q_VMw3 q_VMx3 (q_tb6 (List.mem_of_getElem? (i := 85) rfl) rfl) 16 rfl
theorem kX11_levelOf : q_mokV mX11_levelOf 11 2 := q_mkV q_VMw3 q_VMx3 (q_tb6 (List.mem_of_getElem? (i := 90) rfl) rfl) 17 rfl
theorem kX11_givenBy : q_mokV mX11_givenBy 11 2 := q_mkV q_VMw3 q_VMx3 (q_tb6 (List.mem_of_getElem? (i := 94) rfl) rfl) 18 rfl
theorem kX11_owes : q_mokV mX11_owes 11 2 := q_mkV q_VMw3 q_VMx3 (q_tb6 (List.mem_of_getElem? (i := 102) rfl) rfl) 19 rfl
theorem kX2_loan : q_mokV mX2_loan 2 2 := q_mkV q_VMw3 q_VMx3 (q_tb6 (List.mem_of_getElem? (i := 106) rfl) rfl) 20 rfl
theorem kX11_net : q_mokV mX11_net 11 1 := q_mkV q_VMw3 q_VMx3 (q_tb6 (List.mem_of_getElem? (i := 113) rfl) rfl) 21 rfl
theorem kX2_netOf : q_mokV mX2_netOf 2 1 := q_mkV q_VMw3 q_VMx3 (q_tb6 (List.mem_of_getElem? (i := 117) rfl) rfl) 22 rfl
theorem kX11_struck : q_mokV mX11_struck 11 1 := q_mkV q_VMw3 q_VMx3 (q_tb6 (List.mem_of_getElem? (i := 125) rfl) rfl) 23 rfl
theorem kX2_leastSum : q_mokV mX2_leastSum 2 0 := q_mkV q_VMw3 q_VMx3 (q_tb6 (List.mem_of_getElem? (i := 129) rfl) rfl) 24 rfl
theorem kX2_loansInAll : q_mokV mX2_loansInAll 2 0 := q_mkV q_VMw3 q_VMx3 (q_tb6 (List.mem_of_getElem? (i := 135) rfl) rfl) 25 rfl
theorem kX11_look : q_mokV mX11_look 11 1 := q_mkV q_VMw3 q_VMx3 (q_tb6 (List.mem_of_getElem? (i := 142) rfl) rfl) 26 rfl
theorem kX1_findLook : q_mokV mX1_findLook 1 1 := q_mkV q_VMw3 q_VMx3 (q_tb6 (List.mem_of_getElem? (i := 146) rfl) rfl) 27 rfl
theorem kX1_isInLine : q_mokV mX1_isInLine 1 2 := q_mkV q_VMw3 q_VMx3 (q_tb6 (List.mem_of_getElem? (i := 151) rfl) rfl) 28 rfl
theorem kX1_offerLook : q_mokV mX1_offerLook 1 3 := q_mkV q_VMw3 q_VMx3 (q_tb6 (List.mem_of_getElem? (i := 162) rfl) rfl) 29 rfl
theorem kX11_settle : q_mokV mX11_settle 11 5 := q_mkV q_VMw3 q_VMx3 (q_tb6 (List.mem_of_getElem? (i := 169) rfl) rfl) 30 rfl
theorem kX11_waitLoss : q_mokV mX11_waitLoss 11 4 := q_mkV q_VMw3 q_VMx3 (q_tb6 (List.mem_of_getElem? (i := 179) rfl) rfl) 31 rfl
theorem kX11_now : q_mokV mX11_now 11 4 := q_mkV q_VMw3 q_VMx3 (q_tb6 (List.mem_of_getElem? (i := 191) rfl) rfl) 32 rfl
theorem kX11_bids : q_mokV mX11_bids 11 4 := q_mkV q_VMw3 q_VMx3 (q_tb6 (List.mem_of_getElem? (i := 198) rfl) rfl) 33 rfl
theorem kX0_findRests : q_mokV mX0_findRests 0 2 := q_mkV q_VMw3 q_VMx3 (q_tb6 (List.mem_of_getElem? (i := 202) rfl) rfl) 34 rfl
theorem kX0_addRest : q_mokV mX0_addRest 0 2 := q_mkV q_VMw3 q_VMx3 (q_tb6 (List.mem_of_getElem? (i := 213) rfl) rfl) 35 rfl
theorem kX11_has : q_mokV mX11_has 11 4 := q_mkV q_VMw3 q_VMx3 (q_tb6 (List.mem_of_getElem? (i := 221) rfl) rfl) 36 rfl
theorem kX11_decade : q_mokV mX11_decade 11 3 := q_mkV q_VMw3 q_VMx3 (q_tb6 (List.mem_of_getElem? (i := 228) rfl) rfl) 37 rfl
theorem kX4_liveDecade : q_mokV mX4_liveDecade 4 5 := q_mkV q_VMw3 q_VMx3 (q_tb6 (List.mem_of_getElem? (i := 232) rfl) rfl) 38 rfl
theorem kX6_loseLight : q_mokV mX6_loseLight 6 0 := q_mkV q_VMw3 q_VMx3 (q_tb6 (List.mem_of_getElem? (i := 237) rfl) rfl) 39 rfl
theorem kX4_owedThen : q_mokV mX4_owedThen 4 1 := q_mkV q_VMw4 q_VMx4 (q_tb7 (List.mem_of_getElem? (i := 1) rfl) rfl) 0 rfl
theorem kX4_inDefaultThen : q_mokV mX4_inDefaultThen 4 1 := q_mkV q_VMw4 q_VMx4 (q_tb7 (List.mem_of_getElem? (i := 5) rfl) rfl) 1 rfl
theorem kX11_span : q_mokV mX11_span 11 4 := q_mkV q_VMw4 q_VMx4 (q_tb7 (List.mem_of_getElem? (i := 13) rfl) rfl) 2 rfl
theorem kX11_brightest : q_mokV mX11_brightest 11 1 := q_mkV q_VMw4 q_VMx4 (q_tb7 (List.mem_of_getElem? (i := 21) rfl) rfl) 3 rfl
theorem kX12_thrown : q_mokV mX12_thrown 12 0 := q_mkV q_VMw4 q_VMx4 (q_tb7 (List.mem_of_getElem? (i := 25) rfl) rfl) 4 rfl
theorem kX12_clears : q_mokV mX12_clears 12 0 := q_mkV q_VMw4 q_VMx4 (q_tb7 (List.mem_of_getElem? (i := 35) rfl) rfl) 5 rfl
theorem kX12_sets : q_mokV mX12_sets 12 0 := q_mkV q_VMw4 q_VMx4 (q_tb7 (List.mem_of_getElem? (i := 39) rfl) rfl) 6 rfl
theorem kX12_copies : q_mokV mX12_copies 12 3 := q_mkV q_VMw4 q_VMx4 (q_tb7 (List.mem_of_getElem? (i := 43) rfl) rfl) 7 rfl
theorem kX12_lightOf : q_mokV mX12_lightOf 12 2 := q_mkV q_VMw4 q_VMx4 (q_tb7 (List.mem_of_getElem? (i := 47) rfl) rfl) 8 rfl
theorem kX12_feed : q_mokV mX12_feed 12 5 := q_mkV q_VMw4 q_VMx4 (q_tb8 (List.mem_of_getElem? (i := 14) rfl) rfl) 9 rfl
theorem kX12_fault : q_mokV mX12_fault 12 0 := q_mkV q_VMw4 q_VMx4 (q_tb8 (List.mem_of_getElem? (i := 18) rfl) rfl) 10 rfl
theorem kX12_coast : q_mokV mX12_coast 12 1 := q_mkV q_VMw4 q_VMx4 (q_tb8 (List.mem_of_getElem? (i := 22) rfl) rfl) 11 rfl
theorem kX12_may : q_mokV mX12_may 12 3 := q_mkV q_VMw4 q_VMx4 (q_tb8 (List.mem_of_getElem? (i := 26) rfl) rfl) 12 rfl
theorem kX12_begins : q_mokV mX12_begins 12 1 := q_mkV q_VMw4 q_VMx4 (q_tb8 (List.mem_of_getElem? (i := 30) rfl) rfl) 13 rfl
theorem kX12_fine : q_mokV mX12_fine 12 0 := q_mkV q_VMw4 q_VMx4 (q_tb8 (List.mem_of_getElem? (i := 34) rfl) rfl) 14 rfl
theorem kX12_isMore : q_mokV mX12_isMore 12 0 := q_mkV q_VMw4 q_VMx4 (q_tb8 (List.mem_of_getElem? (i := 38) rfl) rfl) 15 rfl
theorem kX12_here : q_mokV mX12_here 12 0 := q_mkV q_VMw4 q_VMx4 (q_tb8 (List.mem_of_getElem? (i := 42) rfl) rfl) 16 rfl
theorem kX12_isCreditor : q_mokV mX12_isCreditor 12 0 := q_mkV q_VMw4 q_VMx4 (q_tb8 (List.mem_of_getElem? (i := 46) rfl) rfl) 17 rfl
theorem kX12_standsHere : q_mokV mX12_standsHere 12 1 := q_mkV q_VMw4 q_VMx4 (q_tb8 (List.mem_of_getElem? (i := 51) rfl) rfl) 18 rfl
theorem kX12_isWedding : q_mokV mX12_isWedding 12 0 := q_mkV q_VMw4 q_VMx4 (q_tb8 (List.mem_of_getElem? (i := 60) rfl) rfl) 19 rfl
theorem kX12_word : q_mokV mX12_word 12 0 := q_mkV q_VMw4 q_VMx4 (q_tb8 (List.mem_of_getElem? (i := 65) rfl) rfl) 20 rfl
theorem kX12_wrong : q_mokV mX12_wrong 12 2 := q_mkV q_VMw4 q_VMx4 (q_tb8 (List.mem_of_getElem? (i := 78) rfl) rfl) 21 rfl
theorem kX12_pass : q_mokV mX12_pass 12 0 := q_mkV q_VMw4 q_VMx4 (q_tb8 (List.mem_of_getElem? (i := 82) rfl) rfl) 22 rfl
theorem kX12_readCreditor : q_mokV mX12_readCreditor 12 0 := q_mkV q_VMw4 q_VMx4 (q_tb8 (List.mem_of_getElem? (i := 86) rfl) rfl) 23 rfl
theorem kX12_readNumber : q_mokV mX12_readNumber 12 2 := q_mkV q_VMw4 q_VMx4 (q_tb8 (List.mem_of_getElem? (i := 90) rfl) rfl) 24 rfl
theorem kX12_readWedding : q_mokV mX12_readWedding 12 0 := q_mkV q_VMw4 q_VMx4 (q_tb8 (List.mem_of_getElem? (i := 97) rfl) rfl) 25 rfl
theorem kX12_readColour : q_mokV mX12_readColour 12 0 := q_mkV q_VMw4 q_VMx4 (q_tb8 (List.mem_of_getElem? (i := 101) rfl) rfl) 26 rfl
theorem kX12_colourHere : q_mokV mX12_colourHere 12 0 := q_mkV q_VMw4 q_VMx4 (q_tb8 (List.mem_of_getElem? (i := 105) rfl) rfl) 27 rfl
theorem kX12_readRow : q_mokV mX12_readRow 12 1 := q_mkV q_VMw4 q_VMx4 (q_tb8 (List.mem_of_getElem? (i := 113) rfl) rfl) 28 rfl
theorem kX12_sign : q_mokV mX12_sign 12 1 := q_mkV q_VMw4 q_VMx4 (q_tb8 (List.mem_of_getElem? (i := 117) rfl) rfl) 29 rfl
theorem kX12_result : q_mokV mX12_result 12 1 := q_mkV q_VMw4 q_VMx4 (q_tb8 (List.mem_of_getElem? (i := 121) rfl) rfl) 30 rfl
theorem kX12_law : q_mokV mX12_law 12 1 := q_mkV q_VMw4 q_VMx4 (q_tb8 (List.mem_of_getElem? (i := 125) rfl) rfl) 31 rfl
theorem kX12_readSum : q_mokV mX12_readSum 12 0 := q_mkV q_VMw4 q_VMx4 (q_tb8 (List.mem_of_getElem? (i := 129) rfl) rfl) 32 rfl
theorem kX12_readProduct : q_mokV mX12_readProduct 12 0 := q_mkV q_VMw4 q_VMx4 (q_tb8 (List.mem_of_getElem? (i := 133) rfl) rfl) 33 rfl
theorem kX12_readUnit : q_mokV mX12_readUnit 12 0 := q_mkV q_VMw4 q_VMx4 (q_tb8 (List.mem_of_getElem? (i := 137) rfl) rfl) 34 rfl
theorem kX12_opensOne : q_mokV mX12_opensOne 12 1 := q_mkV q_VMw4 q_VMx4 (q_tb8 (List.mem_of_getElem? (i := 141) rfl) rfl) 35 rfl
theorem kX12_emit : q_mokV mX12_emit 12 2 := q_mkV q_VMw4 q_VMx4 (q_tb8 (List.mem_of_getElem? (i := 145) rfl) rfl) 36 rfl
theorem kX12_readTwo : q_mokV mX12_readTwo 12 2 := q_mkV q_VMw4 q_VMx4 (q_tb8 (List.mem_of_getElem? (i := 150) rfl) rfl) 37 rfl
theorem kX12_factHere : q_mokV mX12_factHere 12 0 := q_mkV q_VMw4 q_VMx4 (q_tb8 (List.mem_of_getElem? (i := 155) rfl) rfl) 38 rfl
theorem kX12_work : q_mokV mX12_work 12 1 := q_mkV q_VMw4 q_VMx4 (q_tb8 (List.mem_of_getElem? (i := 165) rfl) rfl) 39 rfl
theorem kX12_readStep : q_mokV mX12_readStep 12 0 := q_mkV q_VMw5 q_VMx5 (q_tb8 (List.mem_of_getElem? (i := 169) rfl) rfl) 0 rfl
theorem kX12_tellsStep : q_mokV mX12_tellsStep 12 3 := q_mkV q_VMw5 q_VMx5 (q_tb8 (List.mem_of_getElem? (i := 174) rfl) rfl) 1 rfl
theorem kX12_take : q_mokV mX12_take 12 0 := q_mkV q_VMw5 q_VMx5 (q_tb8 (List.mem_of_getElem? (i := 181) rfl) rfl) 2 rfl
theorem kX12_goesSteps : q_mokV mX12_goesSteps 12 2 := q_mkV q_VMw5 q_VMx5 (q_tb8 (List.mem_of_getElem? (i := 185) rfl) rfl) 3 rfl
theorem kX12_goes : q_mokV mX12_goes 12 3 := q_mkV q_VMw5 q_VMx5 (q_tb8 (List.mem_of_getElem? (i := 189) rfl) rfl) 4 rfl
theorem kX12_goesNext : q_mokV mX12_goesNext 12 0 := q_mkV q_VMw5 q_VMx5 (q_tb8 (List.mem_of_getElem? (i := 193) rfl) rfl) 5 rfl
theorem kX12_passes : q_mokV mX12_passes 12 0 := q_mkV q_VMw5 q_VMx5 (q_tb8 (List.mem_of_getElem? (i := 197) rfl) rfl) 6 rfl
theorem kX12_growsOf : q_mokV mX12_growsOf 12 1 := q_mkV q_VMw5 q_VMx5 (q_tb8 (List.mem_of_getElem? (i := 201) rfl) rfl) 7 rfl
theorem kX12_lastOf : q_mokV mX12_lastOf 12 1 := q_mkV q_VMw5 q_VMx5 (q_tb8 (List.mem_of_getElem? (i := 205) rfl) rfl) 8 rfl
theorem kX12_colourOf : q_mokV mX12_colourOf 12 1 := q_mkV q_VMw5 q_VMx5 (q_tb8 (List.mem_of_getElem? (i := 209) rfl) rfl) 9 rfl
theorem kX12_growsNow : q_mokV mX12_growsNow 12 0 := q_mkV q_VMw5 q_VMx5 (q_tb8 (List.mem_of_getElem? (i := 213) rfl) rfl) 10 rfl
theorem kX12_valueNow : q_mokV mX12_valueNow 12 0 := q_mkV q_VMw5 q_VMx5 (q_tb8 (List.mem_of_getElem? (i := 217) rfl) rfl) 11 rfl
theorem kX12_pays : q_mokV mX12_pays 12 2 := q_mkV q_VMw5 q_VMx5 (q_tb8 (List.mem_of_getElem? (i := 224) rfl) rfl) 12 rfl
theorem kX12_book : q_mokV mX12_book 12 1 := q_mkV q_VMw5 q_VMx5 (q_tb8 (List.mem_of_getElem? (i := 228) rfl) rfl) 13 rfl
theorem kX12_undo : q_mokV mX12_undo 12 0 := q_mkV q_VMw5 q_VMx5 (q_tb8 (List.mem_of_getElem? (i := 232) rfl) rfl) 14 rfl
theorem kX12_told : q_mokV mX12_told 12 1 := q_mkV q_VMw5 q_VMx5 (q_tb8 (List.mem_of_getElem? (i := 236) rfl) rfl) 15 rfl
theorem kX12_owedAll : q_mokV mX12_owedAll 12 0 := q_mkV q_VMw5 q_VMx5 (q_tb9 (List.mem_of_getElem? (i := 3) rfl) rfl) 16 rfl
theorem kX12_lateAll : q_mokV mX12_lateAll 12 0 := q_mkV q_VMw5 q_VMx5 (q_tb9 (List.mem_of_getElem? (i := 7) rfl) rfl) 17 rfl
theorem kX12_creditor : q_mokV mX12_creditor 12 2 := q_mkV q_VMw5 q_VMx5 (q_tb9 (List.mem_of_getElem? (i := 11) rfl) rfl) 18 rfl
theorem kX12_isCreditor_ : q_mokV mX12_isCreditor_ 12 2 := q_mkV q_VMw5 q_VMx5 (q_tb9 (List.mem_of_getElem? (i := 15) rfl) rfl) 19 rfl
theorem kX12_owedTo : q_mokV mX12_owedTo 12 2 := q_mkV q_VMw5 q_VMx5 (q_tb9 (List.mem_of_getElem? (i := 19) rfl) rfl) 20 rfl
theorem kX12_debt : q_mokV mX12_debt 12 2 := q_mkV q_VMw5 q_VMx5 (q_tb9 (List.mem_of_getElem? (i := 23) rfl) rfl) 21 rfl
theorem kX12_isDebt : q_mokV mX12_isDebt 12 2 := q_mkV q_VMw5 q_VMx5 (q_tb9 (List.mem_of_getElem? (i := 27) rfl) rfl) 22 rfl
theorem kX12_light : q_mokV mX12_light 12 2 := q_mkV q_VMw5 q_VMx5 (q_tb9 (List.mem_of_getElem? (i := 31) rfl) rfl) 23 rfl
theorem kX12_dusk : q_mokV mX12_dusk 12 2 := q_mkV q_VMw5 q_VMx5 (q_tb9 (List.mem_of_getElem? (i := 38) rfl) rfl) 24 rfl
theorem kX12_would : q_mokV mX12_would 12 4 := q_mkV q_VMw5 q_VMx5 (q_tb9 (List.mem_of_getElem? (i := 45) rfl) rfl) 25 rfl
theorem kX12_grows : q_mokV mX12_grows 12 1 := q_mkV q_VMw5 q_VMx5 (q_tb9 (List.mem_of_getElem? (i := 49) rfl) rfl) 26 rfl
theorem kX12_best : q_mokV mX12_best 12 1 := q_mkV q_VMw5 q_VMx5 (q_tb9 (List.mem_of_getElem? (i := 53) rfl) rfl) 27 rfl
theorem kX12_canEnd : q_mokV mX12_canEnd 12 1 := q_mkV q_VMw5 q_VMx5 (q_tb9 (List.mem_of_getElem? (i := 57) rfl) rfl) 28 rfl
theorem kX12_soon : q_mokV mX12_soon 12 0 := q_mkV q_VMw5 q_VMx5 (q_tb9 (List.mem_of_getElem? (i := 61) rfl) rfl) 29 rfl
theorem kX12_paysAll : q_mokV mX12_paysAll 12 0 := q_mkV q_VMw5 q_VMx5 (q_tb9 (List.mem_of_getElem? (i := 65) rfl) rfl) 30 rfl
theorem kX12_isAhead : q_mokV mX12_isAhead 12 2 := q_mkV q_VMw5 q_VMx5 (q_tb9 (List.mem_of_getElem? (i := 69) rfl) rfl) 31 rfl
theorem kX12_left : q_mokV mX12_left 12 1 := q_mkV q_VMw5 q_VMx5 (q_tb9 (List.mem_of_getElem? (i := 73) rfl) rfl) 32 rfl
theorem kX12_delay : q_mokV mX12_delay 12 2 := q_mkV q_VMw5 q_VMx5 (q_tb9 (List.mem_of_getElem? (i := 77) rfl) rfl) 33 rfl
theorem kX12_next : q_mokV mX12_next 12 0 := q_mkV q_VMw5 q_VMx5 (q_tb9 (List.mem_of_getElem? (i := 81) rfl) rfl) 34 rfl
theorem kX12_matched : q_mokV mX12_matched 12 0 := q_mkV q_VMw5 q_VMx5 (q_tb9 (List.mem_of_getElem? (i := 85) rfl) rfl) 35 rfl
theorem kX12_findWeddings : q_mokV mX12_findWeddings 12 0 := q_mkV q_VMw5 q_VMx5 (q_tb9 (List.mem_of_getElem? (i := 89) rfl) rfl) 36 rfl
theorem kX12_mostWith : q_mokV mX12_mostWith 12 1 := q_mkV q_VMw5 q_VMx5 (q_tb9 (List.mem_of_getElem? (i := 93) rfl) rfl) 37 rfl
theorem kX12_finds : q_mokV mX12_finds 12 2 := q_mkV q_VMw5 q_VMx5 (q_tb9 (List.mem_of_getElem? (i := 97) rfl) rfl) 38 rfl
theorem kX12_canWed : q_mokV mX12_canWed 12 2 := q_mkV q_VMw5 q_VMx5 (q_tb9 (List.mem_of_getElem? (i := 101) rfl) rfl) 39 rfl
theorem kX12_isTaken : q_mokV mX12_isTaken 12 2 := q_mkV q_VMw6 q_VMx6 (q_tb9 (List.mem_of_getElem? (i := 105) rfl) rfl) 0 rfl
theorem kX12_weds : q_mokV mX12_weds 12 1 := q_mkV q_VMw6 q_VMx6 (q_tb9 (List.mem_of_getElem? (i := 109) rfl) rfl) 1 rfl
theorem kX12_isWedding_ : q_mokV mX12_isWedding_ 12 2 := q_mkV q_VMw6 q_VMx6 (q_tb9 (List.mem_of_getElem? (i := 113) rfl) rfl) 2 rfl
theorem kX12_choices : q_mokV mX12_choices 12 1 := q_mkV q_VMw6 q_VMx6 (q_tb9 (List.mem_of_getElem? (i := 117) rfl) rfl) 3 rfl
theorem kX12_sees : q_mokV mX12_sees 12 1 := q_mkV q_VMw6 q_VMx6 (q_tb9 (List.mem_of_getElem? (i := 121) rfl) rfl) 4 rfl
theorem kX12_seesFrom : q_mokV mX12_seesFrom 12 2 := q_mkV q_VMw6 q_VMx6 (q_tb9 (List.mem_of_getElem? (i := 125) rfl) rfl) 5 rfl
theorem kX12_eyes : q_mokV mX12_eyes 12 1 := q_mkV q_VMw6 q_VMx6 (q_tb9 (List.mem_of_getElem? (i := 129) rfl) rfl) 6 rfl
theorem kX12_chairs : q_mokV mX12_chairs 12 2 := q_mkV q_VMw6 q_VMx6 (q_tb9 (List.mem_of_getElem? (i := 133) rfl) rfl) 7 rfl
theorem kX12_chairsOn : q_mokV mX12_chairsOn 12 4 := q_mkV q_VMw6 q_VMx6 (q_tb9 (List.mem_of_getElem? (i := 137) rfl) rfl) 8 rfl
theorem kX12_gets : q_mokV mX12_gets 12 4 := q_mkV q_VMw6 q_VMx6 (q_tb9 (List.mem_of_getElem? (i := 141) rfl) rfl) 9 rfl
theorem kX12_levelled : q_mokV mX12_levelled 12 2 := q_mkV q_VMw6 q_VMx6 (q_tb9 (List.mem_of_getElem? (i := 146) rfl) rfl) 10 rfl
theorem kX12_owes : q_mokV mX12_owes 12 2 := q_mkV q_VMw6 q_VMx6 (q_tb9 (List.mem_of_getElem? (i := 150) rfl) rfl) 11 rfl
theorem kX12_net : q_mokV mX12_net 12 1 := q_mkV q_VMw6 q_VMx6 (q_tb9 (List.mem_of_getElem? (i := 154) rfl) rfl) 12 rfl
theorem kX12_netOf : q_mokV mX12_netOf 12 1 := q_mkV q_VMw6 q_VMx6 (q_tb9 (List.mem_of_getElem? (i := 158) rfl) rfl) 13 rfl
theorem kX12_struck : q_mokV mX12_struck 12 1 := q_mkV q_VMw6 q_VMx6 (q_tb9 (List.mem_of_getElem? (i := 162) rfl) rfl) 14 rfl
theorem kX12_moved : q_mokV mX12_moved 12 0 := q_mkV q_VMw6 q_VMx6 (q_tb9 (List.mem_of_getElem? (i := 166) rfl) rfl) 15 rfl
theorem kX12_movedNow : q_mokV mX12_movedNow 12 0 := q_mkV q_VMw6 q_VMx6 (q_tb9 (List.mem_of_getElem? (i := 170) rfl) rfl) 16 rfl
theorem kX12_look : q_mokV mX12_look 12 1 := q_mkV q_VMw6 q_VMx6 (q_tb9 (List.mem_of_getElem? (i := 174) rfl) rfl) 17 rfl
theorem kX12_isSeen : q_mokV mX12_isSeen 12 2 := q_mkV q_VMw6 q_VMx6 (q_tb9 (List.mem_of_getElem? (i := 178) rfl) rfl) 18 rfl
theorem kX12_worstAt : q_mokV mX12_worstAt 12 3 := q_mkV q_VMw6 q_VMx6 (q_tb9 (List.mem_of_getElem? (i := 182) rfl) rfl) 19 rfl
theorem kX12_settle : q_mokV mX12_settle 12 5 := q_mkV q_VMw6 q_VMx6 (q_tb9 (List.mem_of_getElem? (i := 186) rfl) rfl) 20 rfl
theorem kX12_losesOf : q_mokV mX12_losesOf 12 4 := q_mkV q_VMw6 q_VMx6 (q_tb9 (List.mem_of_getElem? (i := 196) rfl) rfl) 21 rfl
theorem kX12_waits : q_mokV mX12_waits 12 4 := q_mkV q_VMw6 q_VMx6 (q_tb9 (List.mem_of_getElem? (i := 200) rfl) rfl) 22 rfl
theorem kX12_now : q_mokV mX12_now 12 4 := q_mkV q_VMw6 q_VMx6 (q_tb9 (List.mem_of_getElem? (i := 207) rfl) rfl) 23 rfl
theorem kX12_bids : q_mokV mX12_bids 12 4 := q_mkV q_VMw6 q_VMx6 (q_tb9 (List.mem_of_getElem? (i := 211) rfl) rfl) 24 rfl
theorem kX12_has : q_mokV mX12_has 12 4 := q_mkV q_VMw6 q_VMx6 (q_tb9 (List.mem_of_getElem? (i := 221) rfl) rfl) 25 rfl
theorem kX12_decade : q_mokV mX12_decade 12 3 := q_mkV q_VMw6 q_VMx6 (q_tb9 (List.mem_of_getElem? (i := 225) rfl) rfl) 26 rfl
theorem kX12_goesOn : q_mokV mX12_goesOn 12 2 := q_mkV q_VMw6 q_VMx6 (q_tb9 (List.mem_of_getElem? (i := 229) rfl) rfl) 27 rfl
theorem kX12_draws : q_mokV mX12_draws 12 0 := q_mkV q_VMw6 q_VMx6 (q_tb9 (List.mem_of_getElem? (i := 233) rfl) rfl) 28 rfl
theorem kX12_spentIn : q_mokV mX12_spentIn 12 1 := q_mkV q_VMw6 q_VMx6 (q_tb9 (List.mem_of_getElem? (i := 238) rfl) rfl) 29 rfl
theorem kX12_span : q_mokV mX12_span 12 4 := q_mkV q_VMw6 q_VMx6 (q_tb10 (List.mem_of_getElem? (i := 2) rfl) rfl) 30 rfl
theorem kX12_greatest : q_mokV mX12_greatest 12 0 := q_mkV q_VMw6 q_VMx6 (q_tb10 (List.mem_of_getElem? (i := 6) rfl) rfl) 31 rfl
theorem kX12_brightest : q_mokV mX12_brightest 12 1 := q_mkV q_VMw6 q_VMx6 (q_tb10 (List.mem_of_getElem? (i := 10) rfl) rfl) 32 rfl
theorem kX12_image : q_mokV mX12_image 12 0 := q_mkV q_VMw6 q_VMx6 (q_tb10 (List.mem_of_getElem? (i := 14) rfl) rfl) 33 rfl
theorem kX12_keepsAll : q_mokV mX12_keepsAll 12 2 := q_mkV q_VMw6 q_VMx6 (q_tb10 (List.mem_of_getElem? (i := 18) rfl) rfl) 34 rfl
theorem kX12_keepsRow : q_mokV mX12_keepsRow 12 4 := q_mkV q_VMw6 q_VMx6 (q_tb10 (List.mem_of_getElem? (i := 22) rfl) rfl) 35 rfl
theorem kX12_restore : q_mokV mX12_restore 12 0 := q_mkV q_VMw6 q_VMx6 (q_tb10 (List.mem_of_getElem? (i := 26) rfl) rfl) 36 rfl
theorem kX12_status : q_mokV mX12_status 12 1 := q_mkV q_VMw6 q_VMx6 (q_tb10 (List.mem_of_getElem? (i := 30) rfl) rfl) 37 rfl
theorem kX12_count : q_mokV mX12_count 12 1 := q_mkV q_VMw6 q_VMx6 (q_tb10 (List.mem_of_getElem? (i := 34) rfl) rfl) 38 rfl
theorem kX5_joined : q_mokS mX5_joined 3 := q_mkS q_SMw0 q_SMx0 (q_tb3 (List.mem_of_getElem? (i := 38) rfl) rfl) 0 rfl
theorem kX10_isLetter : q_mokS mX10_isLetter 1 := q_mkS q_SMw0 q_SMx0 (q_tb3 (List.mem_of_getElem? (i := 226) rfl) rfl) 1 rfl
theorem kJ3_checkIndex_8e157 : q_mokS mJ3_checkIndex_8e157 3 := q_mkS q_SMw0 q_SMx0 (q_tb4 (List.mem_of_getElem? (i := 24) rfl) rfl) 2 rfl
theorem kX2_admit : q_mokS mX2_admit 3 := q_mkS q_SMw0 q_SMx0 (q_tb4 (List.mem_of_getElem? (i := 46) rfl) rfl) 3 rfl
theorem kX10_isDigit : q_mokS mX10_isDigit 1 := q_mkS q_SMw0 q_SMx0 (q_tb4 (List.mem_of_getElem? (i := 61) rfl) rfl) 4 rfl
theorem kX5_mayOpen : q_mokS mX5_mayOpen 2 := q_mkS q_SMw0 q_SMx0 (q_tb4 (List.mem_of_getElem? (i := 214) rfl) rfl) 5 rfl
theorem kX11_isIn : q_mokS mX11_isIn 3 := q_mkS q_SMw0 q_SMx0 (q_tb5 (List.mem_of_getElem? (i := 101) rfl) rfl) 6 rfl
theorem kX11_isColour : q_mokS mX11_isColour 1 := q_mkS q_SMw0 q_SMx0 (q_tb5 (List.mem_of_getElem? (i := 174) rfl) rfl) 7 rfl
theorem kX11_isDusk : q_mokS mX11_isDusk 1 := q_mkS q_SMw0 q_SMx0 (q_tb5 (List.mem_of_getElem? (i := 195) rfl) rfl) 8 rfl
theorem kX1_mostAlike : q_mokS mX1_mostAlike 4 := q_mkS q_SMw0 q_SMx0 (q_tb6 (List.mem_of_getElem? (i := 154) rfl) rfl) 9 rfl
theorem kX1_alike : q_mokS mX1_alike 5 := q_mkS q_SMw0 q_SMx0 (q_tb6 (List.mem_of_getElem? (i := 157) rfl) rfl) 10 rfl
theorem kX11_areSettleable : q_mokS mX11_areSettleable 4 := q_mkS q_SMw0 q_SMx0 (q_tb6 (List.mem_of_getElem? (i := 172) rfl) rfl) 11 rfl
theorem kX11_payOff : q_mokS mX11_payOff 2 := q_mkS q_SMw0 q_SMx0 (q_tb6 (List.mem_of_getElem? (i := 175) rfl) rfl) 12 rfl
theorem kX0_bestGain : q_mokS mX0_bestGain 3 := q_mkS q_SMw0 q_SMx0 (q_tb6 (List.mem_of_getElem? (i := 205) rfl) rfl) 13 rfl
theorem kX0_gain : q_mokS mX0_gain 3 := q_mkS q_SMw0 q_SMx0 (q_tb6 (List.mem_of_getElem? (i := 208) rfl) rfl) 14 rfl
theorem kX12_isSmall : q_mokS mX12_isSmall 1 := q_mkS q_SMw0 q_SMx0 (q_tb8 (List.mem_of_getElem? (i := 56) rfl) rfl) 15 rfl
theorem kX12_of : q_mokS mX12_of 1 := q_mkS q_SMw0 q_SMx0 (q_tb8 (List.mem_of_getElem? (i := 69) rfl) rfl) 16 rfl
theorem kX12_isDigit : q_mokS mX12_isDigit 1 := q_mkS q_SMw0 q_SMx0 (q_tb8 (List.mem_of_getElem? (i := 93) rfl) rfl) 17 rfl
theorem kX12_both : q_mokS mX12_both 3 := q_mkS q_SMw0 q_SMx0 (q_tb8 (List.mem_of_getElem? (i := 220) rfl) rfl) 18 rfl
theorem kX12_within : q_mokS mX12_within 3 := q_mkS q_SMw0 q_SMx0 (q_tb8 (List.mem_of_getElem? (i := 239) rfl) rfl) 19 rfl
theorem kX12_isColour : q_mokS mX12_isColour 1 := q_mkS q_SMw0 q_SMx0 (q_tb9 (List.mem_of_getElem? (i := 34) rfl) rfl) 20 rfl
theorem kX12_isDusk : q_mokS mX12_isDusk 1 := q_mkS q_SMw0 q_SMx0 (q_tb9 (List.mem_of_getElem? (i := 41) rfl) rfl) 21 rfl
theorem kX12_isSettled : q_mokS mX12_isSettled 4 := q_mkS q_SMw0 q_SMx0 (q_tb9 (List.mem_of_getElem? (i := 189) rfl) rfl) 22 rfl
theorem kX12_zero : q_mokS mX12_zero 1 := q_mkS q_SMw0 q_SMx0 (q_tb9 (List.mem_of_getElem? (i := 192) rfl) rfl) 23 rfl
theorem kX12_least : q_mokS mX12_least 3 := q_mkS q_SMw0 q_SMx0 (q_tb9 (List.mem_of_getElem? (i := 203) rfl) rfl) 24 rfl
theorem kX12_isBest : q_mokS mX12_isBest 4 := q_mkS q_SMw0 q_SMx0 (q_tb9 (List.mem_of_getElem? (i := 214) rfl) rfl) 25 rfl
theorem kX12_hasOf : q_mokS mX12_hasOf 3 := q_mkS q_SMw0 q_SMx0 (q_tb9 (List.mem_of_getElem? (i := 217) rfl) rfl) 26 rfl
def q_LK0 : List (Nat × Nat × MethodName) := [(13, 113, yX11_init), (11, 28, yX5_init), (5, 21, yX5_setPlain), (5, 28, yX5_emit), (13, 117, yX11_feed), (11, 99, yX10_size), (11, 103, yX10_put), (13, 141, yX11_fault), (11, 155, yX10_faultPlace), (13, 145, yX11_undo), (11, 130, yX8_size), (11, 158, yX8_pop), (13, 175, yX11_soon), (11, 272, yX4_duskOfNothingOwed), (4, 18, yX6_copy), (4, 22, yX6_payByTerm), (6, 46, yX6_owed), (6, 50, yX6_unspent), (6, 88, yX6_pay), (4, 26, yX6_owedInAll), (4, 29, yX6_today), (4, 33, yX6_pass), (6, 62, yX6_today), (6, 66, yX6_paidToday), (6, 69, yX6_growthOf), (6, 59, yX6_holder), (6, 101, yX5_growth), (5, 111, yX5_joined), (6, 33, yX6_takeLight), (6, 82, yX2_shine), (13, 185, yX11_next), (11, 284, yX6_firstDue), (13, 189, yX11_matched), (13, 220, yX11_moved), (11, 340, yX1_rightMoves), (1, 64, yX1_isRight), (1, 68, yX2_shine), (13, 247, yX11_greatest), (11, 202, yX6_owedTo), (6, 110, yX6_claim), (13, 254, yX11_image), (11, 412, yX8_copy), (11, 134, yX8_push), (13, 258, yX11_restore), (13, 262, yX11_status), (13, 266, yX11_count), (13, 7, yX11_coast), (11, 107, yX11_openText), (11, 165, yX11_require), (11, 422, yX10_open), (11, 111, yX2_read), (2, 57, yX2_clear), (2, 60, yX10_goesOn), (10, 40, yX10_skipBlanks), (2, 66, yX2_readClause), (2, 99, yX10_word), (10, 43, yX10_peek), (10, 59, yX10_isLetter), (2, 102, yX10_startOfLast), (2, 108, yX10_was), (17, 1059, yJ3_checkIndex_8e157), (2, 112, yX2_admit), (2, 152, yX10_blame), (2, 116, yX2_readCreditor), (2, 156, yX10_number), (10, 55, yX10_isDigit), (10, 51, yX10_blame), (2, 160, yX10_failed), (2, 122, yX2_readDebt), (2, 163, yX10_colour), (10, 71, yX10_word), (10, 76, yX10_was), (2, 127, yX2_readDusk), (2, 131, yX2_readRidge), (2, 135, yX2_readLamp), (2, 140, yX2_readWedding), (2, 144, yX2_readFog), (2, 149, yX2_readLoan), (2, 70, yX10_need), (10, 47, yX10_takes), (2, 74, yX2_orderByTerm), (11, 115, yX10_failed), (11, 119, yX10_faultKind), (11, 122, yX11_startAnew), (11, 425, yX5_setPlain), (11, 428, yX1_clear), (11, 431, yX8_clear), (11, 432, yX6_start), (11, 435, yX7_match), (7, 22, yX7_findFitting), (7, 43, yX2_fittingDusks), (2, 170, yX2_shine), (7, 32, yX7_mostMatched), (7, 39, yX7_firstDay), (13, 15, yX11_law), (11, 129, yX5_read), (5, 32, yX5_readSum), (5, 41, yX5_readProduct), (5, 52, yX5_readUnit), (5, 55, yX10_isAtDigit)]
set_option maxRecDepth 100000 in
theorem q_LKw0 : ∀ w ∈ q_LK0.map (fun e => Cond.methodLink (q_own e.1) e.2.1 e.2.2), w ∈ q_TB := q_inTB [148, 280, 284, 288, 535, 539, 543, 547, 551, 555, 559, 563, 570, 574, 578, 583, 587, 591, 598, 602, 606, 610, 614, 615, 619, 626, 630, 634, 639, 643, 647, 651, 655, 659, 663, 667, 671, 672, 676, 680, 684, 688, 692, 696, 700, 704, 712, 716, 720, 786, 791, 795, 802, 806, 810, 814, 818, 822, 825, 830, 860, 882, 885, 889, 893, 897, 900, 901, 906, 910, 914, 916, 921, 926, 931, 936, 941, 946, 951, 955, 959, 963, 964, 968, 972, 973, 977, 981, 986, 990, 994, 998, 999, 1017, 1024, 1028, 1032, 1036, 1040, 1044] (by decide +kernel) (by decide +kernel)
theorem l_13_113 : Cond.methodLink (q_own 13) 113 yX11_init ∈ q_TB := q_LKw0 _ (List.mem_map_of_mem (f := fun e : Nat × Nat × MethodName => Cond.methodLink (q_own e.1) e.2.1 e.2.2) (List.mem_of_getElem? (i := 0) (l := q_LK0) rfl))
theorem l_11_28 : Cond.methodLink (q_own 11) 28 yX5_init ∈ q_TB := q_LKw0 _ (List.mem_map_of_mem (f := fun e : Nat × Nat × MethodName => Cond.methodLink (q_own e.1) e.2.1 e.2.2) (List.mem_of_getElem? (i := 1) (l := q_LK0) rfl))
theorem l_5_21 : Cond.methodLink (q_own 5) 21 yX5_setPlain ∈ q_TB := q_LKw0 _ (List.mem_map_of_mem (f := fun e : Nat × Nat × MethodName => Cond.methodLink (q_own e.1) e.2.1 e.2.2) (List.mem_of_getElem? (i := 2) (l := q_LK0) rfl))
theorem l_5_28 : Cond.methodLink (q_own 5) 28 yX5_emit ∈ q_TB := q_LKw0 _ (List.mem_map_of_mem (f := fun e : Nat × Nat × MethodName => Cond.methodLink (q_own e.1) e.2.1 e.2.2) (List.mem_of_getElem? (i := 3) (l := q_LK0) rfl))
theorem l_13_117 : Cond.methodLink (q_own 13) 117 yX11_feed ∈ q_TB := q_LKw0 _ (List.mem_map_of_mem (f := fun e : Nat × Nat × MethodName => Cond.methodLink (q_own e.1) e.2.1 e.2.2) (List.mem_of_getElem? (i := 4) (l := q_LK0) rfl))
theorem l_11_99 : Cond.methodLink (q_own 11) 99 yX10_size ∈ q_TB := q_LKw0 _ (List.mem_map_of_mem (f := fun e : Nat × Nat × MethodName => Cond.methodLink (q_own e.1) e.2.1 e.2.2) (List.mem_of_getElem? (i := 5) (l := q_LK0) rfl))
theorem l_11_103 : Cond.methodLink (q_own 11) 103 yX10_put ∈ q_TB := q_LKw0 _ (List.mem_map_of_mem (f := fun e : Nat × Nat × MethodName => Cond.methodLink (q_own e.1) e.2.1 e.2.2) (List.mem_of_getElem? (i := 6) (l := q_LK0) rfl))
theorem l_13_141 : Cond.methodLink (q_own 13) 141 yX11_fault ∈ q_TB := q_LKw0 _ (List.mem_map_of_mem (f := fun e : Nat × Nat × MethodName => Cond.methodLink (q_own e.1) e.2.1 e.2.2) (List.mem_of_getElem? (i := 7) (l := q_LK0) rfl))
theorem l_11_155 : Cond.methodLink (q_own 11) 155 yX10_faultPlace ∈ q_TB := q_LKw0 _ (List.mem_map_of_mem (f := fun e : Nat × Nat × MethodName => Cond.methodLink (q_own e.1) e.2.1 e.2.2) (List.mem_of_getElem? (i := 8) (l := q_LK0) rfl))
theorem l_13_145 : Cond.methodLink (q_own 13) 145 yX11_undo ∈ q_TB := q_LKw0 _ (List.mem_map_of_mem (f := fun e : Nat × Nat × MethodName => Cond.methodLink (q_own e.1) e.2.1 e.2.2) (List.mem_of_getElem? (i := 9) (l := q_LK0) rfl))
theorem l_11_130 : Cond.methodLink (q_own 11) 130 yX8_size ∈ q_TB := q_LKw0 _ (List.mem_map_of_mem (f := fun e : Nat × Nat × MethodName => Cond.methodLink (q_own e.1) e.2.1 e.2.2) (List.mem_of_getElem? (i := 10) (l := q_LK0) rfl))
theorem l_11_158 : Cond.methodLink (q_own 11) 158 yX8_pop ∈ q_TB := q_LKw0 _ (List.mem_map_of_mem (f := fun e : Nat × Nat × MethodName => Cond.methodLink (q_own e.1) e.2.1 e.2.2) (List.mem_of_getElem? (i := 11) (l := q_LK0) rfl))
theorem l_13_175 : Cond.methodLink (q_own 13) 175 yX11_soon ∈ q_TB := q_LKw0 _ (List.mem_map_of_mem (f := fun e : Nat × Nat × MethodName => Cond.methodLink (q_own e.1) e.2.1 e.2.2) (List.mem_of_getElem? (i := 12) (l := q_LK0) rfl))
theorem l_11_272 : Cond.methodLink (q_own 11) 272 yX4_duskOfNothingOwed ∈ q_TB := q_LKw0 _ (List.mem_map_of_mem (f := fun e : Nat × Nat × MethodName => Cond.methodLink (q_own e.1) e.2.1 e.2.2) (List.mem_of_getElem? (i := 13) (l := q_LK0) rfl))
theorem l_4_18 : Cond.methodLink (q_own 4) 18 yX6_copy ∈ q_TB := q_LKw0 _ (List.mem_map_of_mem (f := fun e : Nat × Nat × MethodName => Cond.methodLink (q_own e.1) e.2.1 e.2.2) (List.mem_of_getElem? (i := 14) (l := q_LK0) rfl))
theorem l_4_22 : Cond.methodLink (q_own 4) 22 yX6_payByTerm ∈ q_TB := q_LKw0 _ (List.mem_map_of_mem (f := fun e : Nat × Nat × MethodName => Cond.methodLink (q_own e.1) e.2.1 e.2.2) (List.mem_of_getElem? (i := 15) (l := q_LK0) rfl))
theorem l_6_46 : Cond.methodLink (q_own 6) 46 yX6_owed ∈ q_TB := q_LKw0 _ (List.mem_map_of_mem (f := fun e : Nat × Nat × MethodName => Cond.methodLink (q_own e.1) e.2.1 e.2.2) (List.mem_of_getElem? (i := 16) (l := q_LK0) rfl))
theorem l_6_50 : Cond.methodLink (q_own 6) 50 yX6_unspent ∈ q_TB := q_LKw0 _ (List.mem_map_of_mem (f := fun e : Nat × Nat × MethodName => Cond.methodLink (q_own e.1) e.2.1 e.2.2) (List.mem_of_getElem? (i := 17) (l := q_LK0) rfl))
theorem l_6_88 : Cond.methodLink (q_own 6) 88 yX6_pay ∈ q_TB := q_LKw0 _ (List.mem_map_of_mem (f := fun e : Nat × Nat × MethodName => Cond.methodLink (q_own e.1) e.2.1 e.2.2) (List.mem_of_getElem? (i := 18) (l := q_LK0) rfl))
theorem l_4_26 : Cond.methodLink (q_own 4) 26 yX6_owedInAll ∈ q_TB := q_LKw0 _ (List.mem_map_of_mem (f := fun e : Nat × Nat × MethodName => Cond.methodLink (q_own e.1) e.2.1 e.2.2) (List.mem_of_getElem? (i := 19) (l := q_LK0) rfl))
theorem l_4_29 : Cond.methodLink (q_own 4) 29 yX6_today ∈ q_TB := q_LKw0 _ (List.mem_map_of_mem (f := fun e : Nat × Nat × MethodName => Cond.methodLink (q_own e.1) e.2.1 e.2.2) (List.mem_of_getElem? (i := 20) (l := q_LK0) rfl))
theorem l_4_33 : Cond.methodLink (q_own 4) 33 yX6_pass ∈ q_TB := q_LKw0 _ (List.mem_map_of_mem (f := fun e : Nat × Nat × MethodName => Cond.methodLink (q_own e.1) e.2.1 e.2.2) (List.mem_of_getElem? (i := 21) (l := q_LK0) rfl))
theorem l_6_62 : Cond.methodLink (q_own 6) 62 yX6_today ∈ q_TB := q_LKw0 _ (List.mem_map_of_mem (f := fun e : Nat × Nat × MethodName => Cond.methodLink (q_own e.1) e.2.1 e.2.2) (List.mem_of_getElem? (i := 22) (l := q_LK0) rfl))
theorem l_6_66 : Cond.methodLink (q_own 6) 66 yX6_paidToday ∈ q_TB := q_LKw0 _ (List.mem_map_of_mem (f := fun e : Nat × Nat × MethodName => Cond.methodLink (q_own e.1) e.2.1 e.2.2) (List.mem_of_getElem? (i := 23) (l := q_LK0) rfl))
theorem l_6_69 : Cond.methodLink (q_own 6) 69 yX6_growthOf ∈ q_TB := q_LKw0 _ (List.mem_map_of_mem (f := fun e : Nat × Nat × MethodName => Cond.methodLink (q_own e.1) e.2.1 e.2.2) (List.mem_of_getElem? (i := 24) (l := q_LK0) rfl))
theorem l_6_59 : Cond.methodLink (q_own 6) 59 yX6_holder ∈ q_TB := q_LKw0 _ (List.mem_map_of_mem (f := fun e : Nat × Nat × MethodName => Cond.methodLink (q_own e.1) e.2.1 e.2.2) (List.mem_of_getElem? (i := 25) (l := q_LK0) rfl))
theorem l_6_101 : Cond.methodLink (q_own 6) 101 yX5_growth ∈ q_TB := q_LKw0 _ (List.mem_map_of_mem (f := fun e : Nat × Nat × MethodName => Cond.methodLink (q_own e.1) e.2.1 e.2.2) (List.mem_of_getElem? (i := 26) (l := q_LK0) rfl))
theorem l_5_111 : Cond.methodLink (q_own 5) 111 yX5_joined ∈ q_TB := q_LKw0 _ (List.mem_map_of_mem (f := fun e : Nat × Nat × MethodName => Cond.methodLink (q_own e.1) e.2.1 e.2.2) (List.mem_of_getElem? (i := 27) (l := q_LK0) rfl))
theorem l_6_33 : Cond.methodLink (q_own 6) 33 yX6_takeLight ∈ q_TB := q_LKw0 _ (List.mem_map_of_mem (f := fun e : Nat × Nat × MethodName => Cond.methodLink (q_own e.1) e.2.1 e.2.2) (List.mem_of_getElem? (i := 28) (l := q_LK0) rfl))
theorem l_6_82 : Cond.methodLink (q_own 6) 82 yX2_shine ∈ q_TB := q_LKw0 _ (List.mem_map_of_mem (f := fun e : Nat × Nat × MethodName => Cond.methodLink (q_own e.1) e.2.1 e.2.2) (List.mem_of_getElem? (i := 29) (l := q_LK0) rfl))
theorem l_13_185 : Cond.methodLink (q_own 13) 185 yX11_next ∈ q_TB := q_LKw0 _ (List.mem_map_of_mem (f := fun e : Nat × Nat × MethodName => Cond.methodLink (q_own e.1) e.2.1 e.2.2) (List.mem_of_getElem? (i := 30) (l := q_LK0) rfl))
theorem l_11_284 : Cond.methodLink (q_own 11) 284 yX6_firstDue ∈ q_TB := q_LKw0 _ (List.mem_map_of_mem (f := fun e : Nat × Nat × MethodName => Cond.methodLink (q_own e.1) e.2.1 e.2.2) (List.mem_of_getElem? (i := 31) (l := q_LK0) rfl))
theorem l_13_189 : Cond.methodLink (q_own 13) 189 yX11_matched ∈ q_TB := q_LKw0 _ (List.mem_map_of_mem (f := fun e : Nat × Nat × MethodName => Cond.methodLink (q_own e.1) e.2.1 e.2.2) (List.mem_of_getElem? (i := 32) (l := q_LK0) rfl))
theorem l_13_220 : Cond.methodLink (q_own 13) 220 yX11_moved ∈ q_TB := q_LKw0 _ (List.mem_map_of_mem (f := fun e : Nat × Nat × MethodName => Cond.methodLink (q_own e.1) e.2.1 e.2.2) (List.mem_of_getElem? (i := 33) (l := q_LK0) rfl))
theorem l_11_340 : Cond.methodLink (q_own 11) 340 yX1_rightMoves ∈ q_TB := q_LKw0 _ (List.mem_map_of_mem (f := fun e : Nat × Nat × MethodName => Cond.methodLink (q_own e.1) e.2.1 e.2.2) (List.mem_of_getElem? (i := 34) (l := q_LK0) rfl))
theorem l_1_64 : Cond.methodLink (q_own 1) 64 yX1_isRight ∈ q_TB := q_LKw0 _ (List.mem_map_of_mem (f := fun e : Nat × Nat × MethodName => Cond.methodLink (q_own e.1) e.2.1 e.2.2) (List.mem_of_getElem? (i := 35) (l := q_LK0) rfl))
theorem l_1_68 : Cond.methodLink (q_own 1) 68 yX2_shine ∈ q_TB := q_LKw0 _ (List.mem_map_of_mem (f := fun e : Nat × Nat × MethodName => Cond.methodLink (q_own e.1) e.2.1 e.2.2) (List.mem_of_getElem? (i := 36) (l := q_LK0) rfl))
theorem l_13_247 : Cond.methodLink (q_own 13) 247 yX11_greatest ∈ q_TB := q_LKw0 _ (List.mem_map_of_mem (f := fun e : Nat × Nat × MethodName => Cond.methodLink (q_own e.1) e.2.1 e.2.2) (List.mem_of_getElem? (i := 37) (l := q_LK0) rfl))
theorem l_11_202 : Cond.methodLink (q_own 11) 202 yX6_owedTo ∈ q_TB := q_LKw0 _ (List.mem_map_of_mem (f := fun e : Nat × Nat × MethodName => Cond.methodLink (q_own e.1) e.2.1 e.2.2) (List.mem_of_getElem? (i := 38) (l := q_LK0) rfl))
theorem l_6_110 : Cond.methodLink (q_own 6) 110 yX6_claim ∈ q_TB := q_LKw0 _ (List.mem_map_of_mem (f := fun e : Nat × Nat × MethodName => Cond.methodLink (q_own e.1) e.2.1 e.2.2) (List.mem_of_getElem? (i := 39) (l := q_LK0) rfl))
theorem l_13_254 : Cond.methodLink (q_own 13) 254 yX11_image ∈ q_TB := q_LKw0 _ (List.mem_map_of_mem (f := fun e : Nat × Nat × MethodName => Cond.methodLink (q_own e.1) e.2.1 e.2.2) (List.mem_of_getElem? (i := 40) (l := q_LK0) rfl))
theorem l_11_412 : Cond.methodLink (q_own 11) 412 yX8_copy ∈ q_TB := q_LKw0 _ (List.mem_map_of_mem (f := fun e : Nat × Nat × MethodName => Cond.methodLink (q_own e.1) e.2.1 e.2.2) (List.mem_of_getElem? (i := 41) (l := q_LK0) rfl))
theorem l_11_134 : Cond.methodLink (q_own 11) 134 yX8_push ∈ q_TB := q_LKw0 _ (List.mem_map_of_mem (f := fun e : Nat × Nat × MethodName => Cond.methodLink (q_own e.1) e.2.1 e.2.2) (List.mem_of_getElem? (i := 42) (l := q_LK0) rfl))
theorem l_13_258 : Cond.methodLink (q_own 13) 258 yX11_restore ∈ q_TB := q_LKw0 _ (List.mem_map_of_mem (f := fun e : Nat × Nat × MethodName => Cond.methodLink (q_own e.1) e.2.1 e.2.2) (List.mem_of_getElem? (i := 43) (l := q_LK0) rfl))
theorem l_13_262 : Cond.methodLink (q_own 13) 262 yX11_status ∈ q_TB := q_LKw0 _ (List.mem_map_of_mem (f := fun e : Nat × Nat × MethodName => Cond.methodLink (q_own e.1) e.2.1 e.2.2) (List.mem_of_getElem? (i := 44) (l := q_LK0) rfl))
theorem l_13_266 : Cond.methodLink (q_own 13) 266 yX11_count ∈ q_TB := q_LKw0 _ (List.mem_map_of_mem (f := fun e : Nat × Nat × MethodName => Cond.methodLink (q_own e.1) e.2.1 e.2.2) (List.mem_of_getElem? (i := 45) (l := q_LK0) rfl))
theorem l_13_7 : Cond.methodLink (q_own 13) 7 yX11_coast ∈ q_TB := q_LKw0 _ (List.mem_map_of_mem (f := fun e : Nat × Nat × MethodName => Cond.methodLink (q_own e.1) e.2.1 e.2.2) (List.mem_of_getElem? (i := 46) (l := q_LK0) rfl))
theorem l_11_107 : Cond.methodLink (q_own 11) 107 yX11_openText ∈ q_TB := q_LKw0 _ (List.mem_map_of_mem (f := fun e : Nat × Nat × MethodName => Cond.methodLink (q_own e.1) e.2.1 e.2.2) (List.mem_of_getElem? (i := 47) (l := q_LK0) rfl))
theorem l_11_165 : Cond.methodLink (q_own 11) 165 yX11_require ∈ q_TB := q_LKw0 _ (List.mem_map_of_mem (f := fun e : Nat × Nat × MethodName => Cond.methodLink (q_own e.1) e.2.1 e.2.2) (List.mem_of_getElem? (i := 48) (l := q_LK0) rfl))
theorem l_11_422 : Cond.methodLink (q_own 11) 422 yX10_open ∈ q_TB := q_LKw0 _ (List.mem_map_of_mem (f := fun e : Nat × Nat × MethodName => Cond.methodLink (q_own e.1) e.2.1 e.2.2) (List.mem_of_getElem? (i := 49) (l := q_LK0) rfl))
theorem l_11_111 : Cond.methodLink (q_own 11) 111 yX2_read ∈ q_TB := q_LKw0 _ (List.mem_map_of_mem (f := fun e : Nat × Nat × MethodName => Cond.methodLink (q_own e.1) e.2.1 e.2.2) (List.mem_of_getElem? (i := 50) (l := q_LK0) rfl))
theorem l_2_57 : Cond.methodLink (q_own 2) 57 yX2_clear ∈ q_TB := q_LKw0 _ (List.mem_map_of_mem (f := fun e : Nat × Nat × MethodName => Cond.methodLink (q_own e.1) e.2.1 e.2.2) (List.mem_of_getElem? (i := 51) (l := q_LK0) rfl))
theorem l_2_60 : Cond.methodLink (q_own 2) 60 yX10_goesOn ∈ q_TB := q_LKw0 _ (List.mem_map_of_mem (f := fun e : Nat × Nat × MethodName => Cond.methodLink (q_own e.1) e.2.1 e.2.2) (List.mem_of_getElem? (i := 52) (l := q_LK0) rfl))
theorem l_10_40 : Cond.methodLink (q_own 10) 40 yX10_skipBlanks ∈ q_TB := q_LKw0 _ (List.mem_map_of_mem (f := fun e : Nat × Nat × MethodName => Cond.methodLink (q_own e.1) e.2.1 e.2.2) (List.mem_of_getElem? (i := 53) (l := q_LK0) rfl))
theorem l_2_66 : Cond.methodLink (q_own 2) 66 yX2_readClause ∈ q_TB := q_LKw0 _ (List.mem_map_of_mem (f := fun e : Nat × Nat × MethodName => Cond.methodLink (q_own e.1) e.2.1 e.2.2) (List.mem_of_getElem? (i := 54) (l := q_LK0) rfl))
theorem l_2_99 : Cond.methodLink (q_own 2) 99 yX10_word ∈ q_TB := q_LKw0 _ (List.mem_map_of_mem (f := fun e : Nat × Nat × MethodName => Cond.methodLink (q_own e.1) e.2.1 e.2.2) (List.mem_of_getElem? (i := 55) (l := q_LK0) rfl))
theorem l_10_43 : Cond.methodLink (q_own 10) 43 yX10_peek ∈ q_TB := q_LKw0 _ (List.mem_map_of_mem (f := fun e : Nat × Nat × MethodName => Cond.methodLink (q_own e.1) e.2.1 e.2.2) (List.mem_of_getElem? (i := 56) (l := q_LK0) rfl))
theorem l_10_59 : Cond.methodLink (q_own 10) 59 yX10_isLetter ∈ q_TB := q_LKw0 _ (List.mem_map_of_mem (f := fun e : Nat × Nat × MethodName => Cond.methodLink (q_own e.1) e.2.1 e.2.2) (List.mem_of_getElem? (i := 57) (l := q_LK0) rfl))
theorem l_2_102 : Cond.methodLink (q_own 2) 102 yX10_startOfLast ∈ q_TB := q_LKw0 _ (List.mem_map_of_mem (f := fun e : Nat × Nat × MethodName => Cond.methodLink (q_own e.1) e.2.1 e.2.2) (List.mem_of_getElem? (i := 58) (l := q_LK0) rfl))
theorem l_2_108 : Cond.methodLink (q_own 2) 108 yX10_was ∈ q_TB := q_LKw0 _ (List.mem_map_of_mem (f := fun e : Nat × Nat × MethodName => Cond.methodLink (q_own e.1) e.2.1 e.2.2) (List.mem_of_getElem? (i := 59) (l := q_LK0) rfl))
theorem l_17_1059 : Cond.methodLink (q_own 17) 1059 yJ3_checkIndex_8e157 ∈ q_TB := q_LKw0 _ (List.mem_map_of_mem (f := fun e : Nat × Nat × MethodName => Cond.methodLink (q_own e.1) e.2.1 e.2.2) (List.mem_of_getElem? (i := 60) (l := q_LK0) rfl))
theorem l_2_112 : Cond.methodLink (q_own 2) 112 yX2_admit ∈ q_TB := q_LKw0 _ (List.mem_map_of_mem (f := fun e : Nat × Nat × MethodName => Cond.methodLink (q_own e.1) e.2.1 e.2.2) (List.mem_of_getElem? (i := 61) (l := q_LK0) rfl))
theorem l_2_152 : Cond.methodLink (q_own 2) 152 yX10_blame ∈ q_TB := q_LKw0 _ (List.mem_map_of_mem (f := fun e : Nat × Nat × MethodName => Cond.methodLink (q_own e.1) e.2.1 e.2.2) (List.mem_of_getElem? (i := 62) (l := q_LK0) rfl))
theorem l_2_116 : Cond.methodLink (q_own 2) 116 yX2_readCreditor ∈ q_TB := q_LKw0 _ (List.mem_map_of_mem (f := fun e : Nat × Nat × MethodName => Cond.methodLink (q_own e.1) e.2.1 e.2.2) (List.mem_of_getElem? (i := 63) (l := q_LK0) rfl))
theorem l_2_156 : Cond.methodLink (q_own 2) 156 yX10_number ∈ q_TB := q_LKw0 _ (List.mem_map_of_mem (f := fun e : Nat × Nat × MethodName => Cond.methodLink (q_own e.1) e.2.1 e.2.2) (List.mem_of_getElem? (i := 64) (l := q_LK0) rfl))
theorem l_10_55 : Cond.methodLink (q_own 10) 55 yX10_isDigit ∈ q_TB := q_LKw0 _ (List.mem_map_of_mem (f := fun e : Nat × Nat × MethodName => Cond.methodLink (q_own e.1) e.2.1 e.2.2) (List.mem_of_getElem? (i := 65) (l := q_LK0) rfl))
theorem l_10_51 : Cond.methodLink (q_own 10) 51 yX10_blame ∈ q_TB := q_LKw0 _ (List.mem_map_of_mem (f := fun e : Nat × Nat × MethodName => Cond.methodLink (q_own e.1) e.2.1 e.2.2) (List.mem_of_getElem? (i := 66) (l := q_LK0) rfl))
theorem l_2_160 : Cond.methodLink (q_own 2) 160 yX10_failed ∈ q_TB := q_LKw0 _ (List.mem_map_of_mem (f := fun e : Nat × Nat × MethodName => Cond.methodLink (q_own e.1) e.2.1 e.2.2) (List.mem_of_getElem? (i := 67) (l := q_LK0) rfl))
theorem l_2_122 : Cond.methodLink (q_own 2) 122 yX2_readDebt ∈ q_TB := q_LKw0 _ (List.mem_map_of_mem (f := fun e : Nat × Nat × MethodName => Cond.methodLink (q_own e.1) e.2.1 e.2.2) (List.mem_of_getElem? (i := 68) (l := q_LK0) rfl))
theorem l_2_163 : Cond.methodLink (q_own 2) 163 yX10_colour ∈ q_TB := q_LKw0 _ (List.mem_map_of_mem (f := fun e : Nat × Nat × MethodName => Cond.methodLink (q_own e.1) e.2.1 e.2.2) (List.mem_of_getElem? (i := 69) (l := q_LK0) rfl))
theorem l_10_71 : Cond.methodLink (q_own 10) 71 yX10_word ∈ q_TB := q_LKw0 _ (List.mem_map_of_mem (f := fun e : Nat × Nat × MethodName => Cond.methodLink (q_own e.1) e.2.1 e.2.2) (List.mem_of_getElem? (i := 70) (l := q_LK0) rfl))
theorem l_10_76 : Cond.methodLink (q_own 10) 76 yX10_was ∈ q_TB := q_LKw0 _ (List.mem_map_of_mem (f := fun e : Nat × Nat × MethodName => Cond.methodLink (q_own e.1) e.2.1 e.2.2) (List.mem_of_getElem? (i := 71) (l := q_LK0) rfl))
theorem l_2_127 : Cond.methodLink (q_own 2) 127 yX2_readDusk ∈ q_TB := q_LKw0 _ (List.mem_map_of_mem (f := fun e : Nat × Nat × MethodName => Cond.methodLink (q_own e.1) e.2.1 e.2.2) (List.mem_of_getElem? (i := 72) (l := q_LK0) rfl))
theorem l_2_131 : Cond.methodLink (q_own 2) 131 yX2_readRidge ∈ q_TB := q_LKw0 _ (List.mem_map_of_mem (f := fun e : Nat × Nat × MethodName => Cond.methodLink (q_own e.1) e.2.1 e.2.2) (List.mem_of_getElem? (i := 73) (l := q_LK0) rfl))
theorem l_2_135 : Cond.methodLink (q_own 2) 135 yX2_readLamp ∈ q_TB := q_LKw0 _ (List.mem_map_of_mem (f := fun e : Nat × Nat × MethodName => Cond.methodLink (q_own e.1) e.2.1 e.2.2) (List.mem_of_getElem? (i := 74) (l := q_LK0) rfl))
theorem l_2_140 : Cond.methodLink (q_own 2) 140 yX2_readWedding ∈ q_TB := q_LKw0 _ (List.mem_map_of_mem (f := fun e : Nat × Nat × MethodName => Cond.methodLink (q_own e.1) e.2.1 e.2.2) (List.mem_of_getElem? (i := 75) (l := q_LK0) rfl))
theorem l_2_144 : Cond.methodLink (q_own 2) 144 yX2_readFog ∈ q_TB := q_LKw0 _ (List.mem_map_of_mem (f := fun e : Nat × Nat × MethodName => Cond.methodLink (q_own e.1) e.2.1 e.2.2) (List.mem_of_getElem? (i := 76) (l := q_LK0) rfl))
theorem l_2_149 : Cond.methodLink (q_own 2) 149 yX2_readLoan ∈ q_TB := q_LKw0 _ (List.mem_map_of_mem (f := fun e : Nat × Nat × MethodName => Cond.methodLink (q_own e.1) e.2.1 e.2.2) (List.mem_of_getElem? (i := 77) (l := q_LK0) rfl))
theorem l_2_70 : Cond.methodLink (q_own 2) 70 yX10_need ∈ q_TB := q_LKw0 _ (List.mem_map_of_mem (f := fun e : Nat × Nat × MethodName => Cond.methodLink (q_own e.1) e.2.1 e.2.2) (List.mem_of_getElem? (i := 78) (l := q_LK0) rfl))
theorem l_10_47 : Cond.methodLink (q_own 10) 47 yX10_takes ∈ q_TB := q_LKw0 _ (List.mem_map_of_mem (f := fun e : Nat × Nat × MethodName => Cond.methodLink (q_own e.1) e.2.1 e.2.2) (List.mem_of_getElem? (i := 79) (l := q_LK0) rfl))
theorem l_2_74 : Cond.methodLink (q_own 2) 74 yX2_orderByTerm ∈ q_TB := q_LKw0 _ (List.mem_map_of_mem (f := fun e : Nat × Nat × MethodName => Cond.methodLink (q_own e.1) e.2.1 e.2.2) (List.mem_of_getElem? (i := 80) (l := q_LK0) rfl))
theorem l_11_115 : Cond.methodLink (q_own 11) 115 yX10_failed ∈ q_TB := q_LKw0 _ (List.mem_map_of_mem (f := fun e : Nat × Nat × MethodName => Cond.methodLink (q_own e.1) e.2.1 e.2.2) (List.mem_of_getElem? (i := 81) (l := q_LK0) rfl))
theorem l_11_119 : Cond.methodLink (q_own 11) 119 yX10_faultKind ∈ q_TB := q_LKw0 _ (List.mem_map_of_mem (f := fun e : Nat × Nat × MethodName => Cond.methodLink (q_own e.1) e.2.1 e.2.2) (List.mem_of_getElem? (i := 82) (l := q_LK0) rfl))
theorem l_11_122 : Cond.methodLink (q_own 11) 122 yX11_startAnew ∈ q_TB := q_LKw0 _ (List.mem_map_of_mem (f := fun e : Nat × Nat × MethodName => Cond.methodLink (q_own e.1) e.2.1 e.2.2) (List.mem_of_getElem? (i := 83) (l := q_LK0) rfl))
theorem l_11_425 : Cond.methodLink (q_own 11) 425 yX5_setPlain ∈ q_TB := q_LKw0 _ (List.mem_map_of_mem (f := fun e : Nat × Nat × MethodName => Cond.methodLink (q_own e.1) e.2.1 e.2.2) (List.mem_of_getElem? (i := 84) (l := q_LK0) rfl))
theorem l_11_428 : Cond.methodLink (q_own 11) 428 yX1_clear ∈ q_TB := q_LKw0 _ (List.mem_map_of_mem (f := fun e : Nat × Nat × MethodName => Cond.methodLink (q_own e.1) e.2.1 e.2.2) (List.mem_of_getElem? (i := 85) (l := q_LK0) rfl))
theorem l_11_431 : Cond.methodLink (q_own 11) 431 yX8_clear ∈ q_TB := q_LKw0 _ (List.mem_map_of_mem (f := fun e : Nat × Nat × MethodName => Cond.methodLink (q_own e.1) e.2.1 e.2.2) (List.mem_of_getElem? (i := 86) (l := q_LK0) rfl))
theorem l_11_432 : Cond.methodLink (q_own 11) 432 yX6_start ∈ q_TB := q_LKw0 _ (List.mem_map_of_mem (f := fun e : Nat × Nat × MethodName => Cond.methodLink (q_own e.1) e.2.1 e.2.2) (List.mem_of_getElem? (i := 87) (l := q_LK0) rfl))
theorem l_11_435 : Cond.methodLink (q_own 11) 435 yX7_match ∈ q_TB := q_LKw0 _ (List.mem_map_of_mem (f := fun e : Nat × Nat × MethodName => Cond.methodLink (q_own e.1) e.2.1 e.2.2) (List.mem_of_getElem? (i := 88) (l := q_LK0) rfl))
theorem l_7_22 : Cond.methodLink (q_own 7) 22 yX7_findFitting ∈ q_TB := q_LKw0 _ (List.mem_map_of_mem (f := fun e : Nat × Nat × MethodName => Cond.methodLink (q_own e.1) e.2.1 e.2.2) (List.mem_of_getElem? (i := 89) (l := q_LK0) rfl))
theorem l_7_43 : Cond.methodLink (q_own 7) 43 yX2_fittingDusks ∈ q_TB := q_LKw0 _ (List.mem_map_of_mem (f := fun e : Nat × Nat × MethodName => Cond.methodLink (q_own e.1) e.2.1 e.2.2) (List.mem_of_getElem? (i := 90) (l := q_LK0) rfl))
theorem l_2_170 : Cond.methodLink (q_own 2) 170 yX2_shine ∈ q_TB := q_LKw0 _ (List.mem_map_of_mem (f := fun e : Nat × Nat × MethodName => Cond.methodLink (q_own e.1) e.2.1 e.2.2) (List.mem_of_getElem? (i := 91) (l := q_LK0) rfl))
theorem l_7_32 : Cond.methodLink (q_own 7) 32 yX7_mostMatched ∈ q_TB := q_LKw0 _ (List.mem_map_of_mem (f := fun e : Nat × Nat × MethodName => Cond.methodLink (q_own e.1) e.2.1 e.2.2) (List.mem_of_getElem? (i := 92) (l := q_LK0) rfl))
theorem l_7_39 : Cond.methodLink (q_own 7) 39 yX7_firstDay ∈ q_TB := q_LKw0 _ (List.mem_map_of_mem (f := fun e : Nat × Nat × MethodName => Cond.methodLink (q_own e.1) e.2.1 e.2.2) (List.mem_of_getElem? (i := 93) (l := q_LK0) rfl))
theorem l_13_15 : Cond.methodLink (q_own 13) 15 yX11_law ∈ q_TB := q_LKw0 _ (List.mem_map_of_mem (f := fun e : Nat × Nat × MethodName => Cond.methodLink (q_own e.1) e.2.1 e.2.2) (List.mem_of_getElem? (i := 94) (l := q_LK0) rfl))
theorem l_11_129 : Cond.methodLink (q_own 11) 129 yX5_read ∈ q_TB := q_LKw0 _ (List.mem_map_of_mem (f := fun e : Nat × Nat × MethodName => Cond.methodLink (q_own e.1) e.2.1 e.2.2) (List.mem_of_getElem? (i := 95) (l := q_LK0) rfl))
theorem l_5_32 : Cond.methodLink (q_own 5) 32 yX5_readSum ∈ q_TB := q_LKw0 _ (List.mem_map_of_mem (f := fun e : Nat × Nat × MethodName => Cond.methodLink (q_own e.1) e.2.1 e.2.2) (List.mem_of_getElem? (i := 96) (l := q_LK0) rfl))
theorem l_5_41 : Cond.methodLink (q_own 5) 41 yX5_readProduct ∈ q_TB := q_LKw0 _ (List.mem_map_of_mem (f := fun e : Nat × Nat × MethodName => Cond.methodLink (q_own e.1) e.2.1 e.2.2) (List.mem_of_getElem? (i := 97) (l := q_LK0) rfl))
theorem l_5_52 : Cond.methodLink (q_own 5) 52 yX5_readUnit ∈ q_TB := q_LKw0 _ (List.mem_map_of_mem (f := fun e : Nat × Nat × MethodName => Cond.methodLink (q_own e.1) e.2.1 e.2.2) (List.mem_of_getElem? (i := 98) (l := q_LK0) rfl))
theorem l_5_55 : Cond.methodLink (q_own 5) 55 yX10_isAtDigit ∈ q_TB := q_LKw0 _ (List.mem_map_of_mem (f := fun e : Nat × Nat × MethodName => Cond.methodLink (q_own e.1) e.2.1 e.2.2) (List.mem_of_getElem? (i := 99) (l := q_LK0) rfl))
def q_LK1 : List (Nat × Nat × MethodName) := [(5, 58, yX10_number), (5, 48, yX10_takes), (5, 62, yX5_mayOpen), (5, 89, yX10_startOfLast), (5, 93, yX10_blame), (5, 44, yX10_failed), (5, 66, yX10_need), (5, 70, yX10_word), (5, 75, yX10_was), (5, 79, yX5_readPair), (5, 85, yX5_readName), (5, 36, yX10_needEnd), (13, 18, yX11_work), (11, 131, yX9_read), (9, 25, yX10_goesOn), (9, 31, yX9_readStep), (9, 39, yX10_word), (9, 44, yX10_was), (9, 53, yX10_number), (9, 57, yX9_add), (9, 65, yX10_colour), (9, 78, yX9_readAgain), (9, 81, yX10_startOfLast), (9, 84, yX10_blame), (9, 35, yX10_need), (9, 88, yX10_failed), (9, 91, yX10_takes), (11, 138, yX9_run), (9, 104, yX9_runSteps), (9, 113, yX9_isDone), (9, 117, yX6_pay), (9, 122, yX6_owed), (9, 126, yX6_borrow), (6, 56, yX6_lent), (9, 129, yX6_handOn), (9, 133, yX6_pass), (13, 21, yX11_book), (11, 151, yX1_read), (1, 25, yX1_clear), (1, 28, yX10_goesOn), (1, 34, yX1_readLine), (1, 42, yX10_number), (1, 46, yX10_startOfLast), (1, 50, yX10_blame), (1, 54, yX10_colour), (1, 56, yX10_failed), (1, 38, yX10_need), (13, 24, yX11_told), (11, 161, yX11_isIn), (11, 178, yX6_today), (11, 181, yX6_owedInAll), (11, 185, yX6_inDefault), (6, 107, yX6_defaulted), (13, 27, yX11_creditor), (11, 188, yX11_requireCreditor), (11, 441, yX11_requireSuch), (11, 198, yX6_debtsTo), (13, 33, yX11_debt), (11, 205, yX11_requireDebt), (11, 208, yX6_holder), (11, 215, yX6_owed), (11, 224, yX6_defaulted), (11, 227, yX6_paid), (13, 36, yX11_light), (11, 230, yX11_isColour), (11, 234, yX6_unspent), (11, 240, yX6_lent), (11, 243, yX6_owedOf), (11, 246, yX6_paidOf), (6, 114, yX6_paid), (13, 39, yX11_dusk), (11, 249, yX11_isDusk), (11, 252, yX2_shine), (13, 42, yX11_would), (11, 256, yX5_growth), (13, 46, yX11_grows), (11, 260, yX6_growth), (13, 49, yX11_best), (11, 263, yX3_choose), (3, 24, yX6_growth), (3, 30, yX6_unspent), (3, 40, yX3_branch), (3, 44, yX6_owed), (13, 52, yX11_left), (11, 276, yX4_owedBehind), (13, 55, yX11_delay), (11, 280, yX4_dusksToWait), (4, 37, yX6_owed), (4, 41, yX6_paidToday), (4, 44, yX6_growthOf), (13, 58, yX11_weds), (11, 290, yX11_requireWedding), (13, 61, yX11_choices), (11, 296, yX2_fittingDusks), (13, 64, yX11_sees), (11, 306, yX2_showsSea), (13, 68, yX11_eyes), (13, 71, yX11_chairs), (11, 310, yX11_fewestChairs), (11, 447, yX2_firstSeat)]
set_option maxRecDepth 100000 in
theorem q_LKw1 : ∀ w ∈ q_LK1.map (fun e => Cond.methodLink (q_own e.1) e.2.1 e.2.2), w ∈ q_TB := q_inTB [1048, 1049, 1050, 1053, 1054, 1055, 1056, 1057, 1059, 1060, 1065, 1076, 1083, 1087, 1091, 1092, 1096, 1098, 1099, 1100, 1106, 1110, 1114, 1115, 1116, 1117, 1118, 1119, 1123, 1128, 1132, 1133, 1134, 1138, 1142, 1146, 1150, 1154, 1158, 1159, 1160, 1164, 1165, 1166, 1167, 1168, 1169, 1173, 1177, 1180, 1181, 1182, 1186, 1194, 1198, 1202, 1221, 1228, 1232, 1236, 1237, 1238, 1239, 1246, 1250, 1253, 1254, 1255, 1259, 1263, 1267, 1271, 1274, 1278, 1282, 1286, 1290, 1297, 1301, 1305, 1306, 1308, 1312, 1316, 1320, 1327, 1331, 1335, 1336, 1337, 1342, 1346, 1353, 1357, 1362, 1366, 1373, 1380, 1384, 1388] (by decide +kernel) (by decide +kernel)
theorem l_5_58 : Cond.methodLink (q_own 5) 58 yX10_number ∈ q_TB := q_LKw1 _ (List.mem_map_of_mem (f := fun e : Nat × Nat × MethodName => Cond.methodLink (q_own e.1) e.2.1 e.2.2) (List.mem_of_getElem? (i := 0) (l := q_LK1) rfl))
theorem l_5_48 : Cond.methodLink (q_own 5) 48 yX10_takes ∈ q_TB := q_LKw1 _ (List.mem_map_of_mem (f := fun e : Nat × Nat × MethodName => Cond.methodLink (q_own e.1) e.2.1 e.2.2) (List.mem_of_getElem? (i := 1) (l := q_LK1) rfl))
theorem l_5_62 : Cond.methodLink (q_own 5) 62 yX5_mayOpen ∈ q_TB := q_LKw1 _ (List.mem_map_of_mem (f := fun e : Nat × Nat × MethodName => Cond.methodLink (q_own e.1) e.2.1 e.2.2) (List.mem_of_getElem? (i := 2) (l := q_LK1) rfl))
theorem l_5_89 : Cond.methodLink (q_own 5) 89 yX10_startOfLast ∈ q_TB := q_LKw1 _ (List.mem_map_of_mem (f := fun e : Nat × Nat × MethodName => Cond.methodLink (q_own e.1) e.2.1 e.2.2) (List.mem_of_getElem? (i := 3) (l := q_LK1) rfl))
theorem l_5_93 : Cond.methodLink (q_own 5) 93 yX10_blame ∈ q_TB := q_LKw1 _ (List.mem_map_of_mem (f := fun e : Nat × Nat × MethodName => Cond.methodLink (q_own e.1) e.2.1 e.2.2) (List.mem_of_getElem? (i := 4) (l := q_LK1) rfl))
theorem l_5_44 : Cond.methodLink (q_own 5) 44 yX10_failed ∈ q_TB := q_LKw1 _ (List.mem_map_of_mem (f := fun e : Nat × Nat × MethodName => Cond.methodLink (q_own e.1) e.2.1 e.2.2) (List.mem_of_getElem? (i := 5) (l := q_LK1) rfl))
theorem l_5_66 : Cond.methodLink (q_own 5) 66 yX10_need ∈ q_TB := q_LKw1 _ (List.mem_map_of_mem (f := fun e : Nat × Nat × MethodName => Cond.methodLink (q_own e.1) e.2.1 e.2.2) (List.mem_of_getElem? (i := 6) (l := q_LK1) rfl))
theorem l_5_70 : Cond.methodLink (q_own 5) 70 yX10_word ∈ q_TB := q_LKw1 _ (List.mem_map_of_mem (f := fun e : Nat × Nat × MethodName => Cond.methodLink (q_own e.1) e.2.1 e.2.2) (List.mem_of_getElem? (i := 7) (l := q_LK1) rfl))
theorem l_5_75 : Cond.methodLink (q_own 5) 75 yX10_was ∈ q_TB := q_LKw1 _ (List.mem_map_of_mem (f := fun e : Nat × Nat × MethodName => Cond.methodLink (q_own e.1) e.2.1 e.2.2) (List.mem_of_getElem? (i := 8) (l := q_LK1) rfl))
theorem l_5_79 : Cond.methodLink (q_own 5) 79 yX5_readPair ∈ q_TB := q_LKw1 _ (List.mem_map_of_mem (f := fun e : Nat × Nat × MethodName => Cond.methodLink (q_own e.1) e.2.1 e.2.2) (List.mem_of_getElem? (i := 9) (l := q_LK1) rfl))
theorem l_5_85 : Cond.methodLink (q_own 5) 85 yX5_readName ∈ q_TB := q_LKw1 _ (List.mem_map_of_mem (f := fun e : Nat × Nat × MethodName => Cond.methodLink (q_own e.1) e.2.1 e.2.2) (List.mem_of_getElem? (i := 10) (l := q_LK1) rfl))
theorem l_5_36 : Cond.methodLink (q_own 5) 36 yX10_needEnd ∈ q_TB := q_LKw1 _ (List.mem_map_of_mem (f := fun e : Nat × Nat × MethodName => Cond.methodLink (q_own e.1) e.2.1 e.2.2) (List.mem_of_getElem? (i := 11) (l := q_LK1) rfl))
theorem l_13_18 : Cond.methodLink (q_own 13) 18 yX11_work ∈ q_TB := q_LKw1 _ (List.mem_map_of_mem (f := fun e : Nat × Nat × MethodName => Cond.methodLink (q_own e.1) e.2.1 e.2.2) (List.mem_of_getElem? (i := 12) (l := q_LK1) rfl))
theorem l_11_131 : Cond.methodLink (q_own 11) 131 yX9_read ∈ q_TB := q_LKw1 _ (List.mem_map_of_mem (f := fun e : Nat × Nat × MethodName => Cond.methodLink (q_own e.1) e.2.1 e.2.2) (List.mem_of_getElem? (i := 13) (l := q_LK1) rfl))
theorem l_9_25 : Cond.methodLink (q_own 9) 25 yX10_goesOn ∈ q_TB := q_LKw1 _ (List.mem_map_of_mem (f := fun e : Nat × Nat × MethodName => Cond.methodLink (q_own e.1) e.2.1 e.2.2) (List.mem_of_getElem? (i := 14) (l := q_LK1) rfl))
theorem l_9_31 : Cond.methodLink (q_own 9) 31 yX9_readStep ∈ q_TB := q_LKw1 _ (List.mem_map_of_mem (f := fun e : Nat × Nat × MethodName => Cond.methodLink (q_own e.1) e.2.1 e.2.2) (List.mem_of_getElem? (i := 15) (l := q_LK1) rfl))
theorem l_9_39 : Cond.methodLink (q_own 9) 39 yX10_word ∈ q_TB := q_LKw1 _ (List.mem_map_of_mem (f := fun e : Nat × Nat × MethodName => Cond.methodLink (q_own e.1) e.2.1 e.2.2) (List.mem_of_getElem? (i := 16) (l := q_LK1) rfl))
theorem l_9_44 : Cond.methodLink (q_own 9) 44 yX10_was ∈ q_TB := q_LKw1 _ (List.mem_map_of_mem (f := fun e : Nat × Nat × MethodName => Cond.methodLink (q_own e.1) e.2.1 e.2.2) (List.mem_of_getElem? (i := 17) (l := q_LK1) rfl))
theorem l_9_53 : Cond.methodLink (q_own 9) 53 yX10_number ∈ q_TB := q_LKw1 _ (List.mem_map_of_mem (f := fun e : Nat × Nat × MethodName => Cond.methodLink (q_own e.1) e.2.1 e.2.2) (List.mem_of_getElem? (i := 18) (l := q_LK1) rfl))
theorem l_9_57 : Cond.methodLink (q_own 9) 57 yX9_add ∈ q_TB := q_LKw1 _ (List.mem_map_of_mem (f := fun e : Nat × Nat × MethodName => Cond.methodLink (q_own e.1) e.2.1 e.2.2) (List.mem_of_getElem? (i := 19) (l := q_LK1) rfl))
theorem l_9_65 : Cond.methodLink (q_own 9) 65 yX10_colour ∈ q_TB := q_LKw1 _ (List.mem_map_of_mem (f := fun e : Nat × Nat × MethodName => Cond.methodLink (q_own e.1) e.2.1 e.2.2) (List.mem_of_getElem? (i := 20) (l := q_LK1) rfl))
theorem l_9_78 : Cond.methodLink (q_own 9) 78 yX9_readAgain ∈ q_TB := q_LKw1 _ (List.mem_map_of_mem (f := fun e : Nat × Nat × MethodName => Cond.methodLink (q_own e.1) e.2.1 e.2.2) (List.mem_of_getElem? (i := 21) (l := q_LK1) rfl))
theorem l_9_81 : Cond.methodLink (q_own 9) 81 yX10_startOfLast ∈ q_TB := q_LKw1 _ (List.mem_map_of_mem (f := fun e : Nat × Nat × MethodName => Cond.methodLink (q_own e.1) e.2.1 e.2.2) (List.mem_of_getElem? (i := 22) (l := q_LK1) rfl))
theorem l_9_84 : Cond.methodLink (q_own 9) 84 yX10_blame ∈ q_TB := q_LKw1 _ (List.mem_map_of_mem (f := fun e : Nat × Nat × MethodName => Cond.methodLink (q_own e.1) e.2.1 e.2.2) (List.mem_of_getElem? (i := 23) (l := q_LK1) rfl))
theorem l_9_35 : Cond.methodLink (q_own 9) 35 yX10_need ∈ q_TB := q_LKw1 _ (List.mem_map_of_mem (f := fun e : Nat × Nat × MethodName => Cond.methodLink (q_own e.1) e.2.1 e.2.2) (List.mem_of_getElem? (i := 24) (l := q_LK1) rfl))
theorem l_9_88 : Cond.methodLink (q_own 9) 88 yX10_failed ∈ q_TB := q_LKw1 _ (List.mem_map_of_mem (f := fun e : Nat × Nat × MethodName => Cond.methodLink (q_own e.1) e.2.1 e.2.2) (List.mem_of_getElem? (i := 25) (l := q_LK1) rfl))
theorem l_9_91 : Cond.methodLink (q_own 9) 91 yX10_takes ∈ q_TB := q_LKw1 _ (List.mem_map_of_mem (f := fun e : Nat × Nat × MethodName => Cond.methodLink (q_own e.1) e.2.1 e.2.2) (List.mem_of_getElem? (i := 26) (l := q_LK1) rfl))
theorem l_11_138 : Cond.methodLink (q_own 11) 138 yX9_run ∈ q_TB := q_LKw1 _ (List.mem_map_of_mem (f := fun e : Nat × Nat × MethodName => Cond.methodLink (q_own e.1) e.2.1 e.2.2) (List.mem_of_getElem? (i := 27) (l := q_LK1) rfl))
theorem l_9_104 : Cond.methodLink (q_own 9) 104 yX9_runSteps ∈ q_TB := q_LKw1 _ (List.mem_map_of_mem (f := fun e : Nat × Nat × MethodName => Cond.methodLink (q_own e.1) e.2.1 e.2.2) (List.mem_of_getElem? (i := 28) (l := q_LK1) rfl))
theorem l_9_113 : Cond.methodLink (q_own 9) 113 yX9_isDone ∈ q_TB := q_LKw1 _ (List.mem_map_of_mem (f := fun e : Nat × Nat × MethodName => Cond.methodLink (q_own e.1) e.2.1 e.2.2) (List.mem_of_getElem? (i := 29) (l := q_LK1) rfl))
theorem l_9_117 : Cond.methodLink (q_own 9) 117 yX6_pay ∈ q_TB := q_LKw1 _ (List.mem_map_of_mem (f := fun e : Nat × Nat × MethodName => Cond.methodLink (q_own e.1) e.2.1 e.2.2) (List.mem_of_getElem? (i := 30) (l := q_LK1) rfl))
theorem l_9_122 : Cond.methodLink (q_own 9) 122 yX6_owed ∈ q_TB := q_LKw1 _ (List.mem_map_of_mem (f := fun e : Nat × Nat × MethodName => Cond.methodLink (q_own e.1) e.2.1 e.2.2) (List.mem_of_getElem? (i := 31) (l := q_LK1) rfl))
theorem l_9_126 : Cond.methodLink (q_own 9) 126 yX6_borrow ∈ q_TB := q_LKw1 _ (List.mem_map_of_mem (f := fun e : Nat × Nat × MethodName => Cond.methodLink (q_own e.1) e.2.1 e.2.2) (List.mem_of_getElem? (i := 32) (l := q_LK1) rfl))
theorem l_6_56 : Cond.methodLink (q_own 6) 56 yX6_lent ∈ q_TB := q_LKw1 _ (List.mem_map_of_mem (f := fun e : Nat × Nat × MethodName => Cond.methodLink (q_own e.1) e.2.1 e.2.2) (List.mem_of_getElem? (i := 33) (l := q_LK1) rfl))
theorem l_9_129 : Cond.methodLink (q_own 9) 129 yX6_handOn ∈ q_TB := q_LKw1 _ (List.mem_map_of_mem (f := fun e : Nat × Nat × MethodName => Cond.methodLink (q_own e.1) e.2.1 e.2.2) (List.mem_of_getElem? (i := 34) (l := q_LK1) rfl))
theorem l_9_133 : Cond.methodLink (q_own 9) 133 yX6_pass ∈ q_TB := q_LKw1 _ (List.mem_map_of_mem (f := fun e : Nat × Nat × MethodName => Cond.methodLink (q_own e.1) e.2.1 e.2.2) (List.mem_of_getElem? (i := 35) (l := q_LK1) rfl))
theorem l_13_21 : Cond.methodLink (q_own 13) 21 yX11_book ∈ q_TB := q_LKw1 _ (List.mem_map_of_mem (f := fun e : Nat × Nat × MethodName => Cond.methodLink (q_own e.1) e.2.1 e.2.2) (List.mem_of_getElem? (i := 36) (l := q_LK1) rfl))
theorem l_11_151 : Cond.methodLink (q_own 11) 151 yX1_read ∈ q_TB := q_LKw1 _ (List.mem_map_of_mem (f := fun e : Nat × Nat × MethodName => Cond.methodLink (q_own e.1) e.2.1 e.2.2) (List.mem_of_getElem? (i := 37) (l := q_LK1) rfl))
theorem l_1_25 : Cond.methodLink (q_own 1) 25 yX1_clear ∈ q_TB := q_LKw1 _ (List.mem_map_of_mem (f := fun e : Nat × Nat × MethodName => Cond.methodLink (q_own e.1) e.2.1 e.2.2) (List.mem_of_getElem? (i := 38) (l := q_LK1) rfl))
theorem l_1_28 : Cond.methodLink (q_own 1) 28 yX10_goesOn ∈ q_TB := q_LKw1 _ (List.mem_map_of_mem (f := fun e : Nat × Nat × MethodName => Cond.methodLink (q_own e.1) e.2.1 e.2.2) (List.mem_of_getElem? (i := 39) (l := q_LK1) rfl))
theorem l_1_34 : Cond.methodLink (q_own 1) 34 yX1_readLine ∈ q_TB := q_LKw1 _ (List.mem_map_of_mem (f := fun e : Nat × Nat × MethodName => Cond.methodLink (q_own e.1) e.2.1 e.2.2) (List.mem_of_getElem? (i := 40) (l := q_LK1) rfl))
theorem l_1_42 : Cond.methodLink (q_own 1) 42 yX10_number ∈ q_TB := q_LKw1 _ (List.mem_map_of_mem (f := fun e : Nat × Nat × MethodName => Cond.methodLink (q_own e.1) e.2.1 e.2.2) (List.mem_of_getElem? (i := 41) (l := q_LK1) rfl))
theorem l_1_46 : Cond.methodLink (q_own 1) 46 yX10_startOfLast ∈ q_TB := q_LKw1 _ (List.mem_map_of_mem (f := fun e : Nat × Nat × MethodName => Cond.methodLink (q_own e.1) e.2.1 e.2.2) (List.mem_of_getElem? (i := 42) (l := q_LK1) rfl))
theorem l_1_50 : Cond.methodLink (q_own 1) 50 yX10_blame ∈ q_TB := q_LKw1 _ (List.mem_map_of_mem (f := fun e : Nat × Nat × MethodName => Cond.methodLink (q_own e.1) e.2.1 e.2.2) (List.mem_of_getElem? (i := 43) (l := q_LK1) rfl))
theorem l_1_54 : Cond.methodLink (q_own 1) 54 yX10_colour ∈ q_TB := q_LKw1 _ (List.mem_map_of_mem (f := fun e : Nat × Nat × MethodName => Cond.methodLink (q_own e.1) e.2.1 e.2.2) (List.mem_of_getElem? (i := 44) (l := q_LK1) rfl))
theorem l_1_56 : Cond.methodLink (q_own 1) 56 yX10_failed ∈ q_TB := q_LKw1 _ (List.mem_map_of_mem (f := fun e : Nat × Nat × MethodName => Cond.methodLink (q_own e.1) e.2.1 e.2.2) (List.mem_of_getElem? (i := 45) (l := q_LK1) rfl))
theorem l_1_38 : Cond.methodLink (q_own 1) 38 yX10_need ∈ q_TB := q_LKw1 _ (List.mem_map_of_mem (f := fun e : Nat × Nat × MethodName => Cond.methodLink (q_own e.1) e.2.1 e.2.2) (List.mem_of_getElem? (i := 46) (l := q_LK1) rfl))
theorem l_13_24 : Cond.methodLink (q_own 13) 24 yX11_told ∈ q_TB := q_LKw1 _ (List.mem_map_of_mem (f := fun e : Nat × Nat × MethodName => Cond.methodLink (q_own e.1) e.2.1 e.2.2) (List.mem_of_getElem? (i := 47) (l := q_LK1) rfl))
theorem l_11_161 : Cond.methodLink (q_own 11) 161 yX11_isIn ∈ q_TB := q_LKw1 _ (List.mem_map_of_mem (f := fun e : Nat × Nat × MethodName => Cond.methodLink (q_own e.1) e.2.1 e.2.2) (List.mem_of_getElem? (i := 48) (l := q_LK1) rfl))
theorem l_11_178 : Cond.methodLink (q_own 11) 178 yX6_today ∈ q_TB := q_LKw1 _ (List.mem_map_of_mem (f := fun e : Nat × Nat × MethodName => Cond.methodLink (q_own e.1) e.2.1 e.2.2) (List.mem_of_getElem? (i := 49) (l := q_LK1) rfl))
theorem l_11_181 : Cond.methodLink (q_own 11) 181 yX6_owedInAll ∈ q_TB := q_LKw1 _ (List.mem_map_of_mem (f := fun e : Nat × Nat × MethodName => Cond.methodLink (q_own e.1) e.2.1 e.2.2) (List.mem_of_getElem? (i := 50) (l := q_LK1) rfl))
theorem l_11_185 : Cond.methodLink (q_own 11) 185 yX6_inDefault ∈ q_TB := q_LKw1 _ (List.mem_map_of_mem (f := fun e : Nat × Nat × MethodName => Cond.methodLink (q_own e.1) e.2.1 e.2.2) (List.mem_of_getElem? (i := 51) (l := q_LK1) rfl))
theorem l_6_107 : Cond.methodLink (q_own 6) 107 yX6_defaulted ∈ q_TB := q_LKw1 _ (List.mem_map_of_mem (f := fun e : Nat × Nat × MethodName => Cond.methodLink (q_own e.1) e.2.1 e.2.2) (List.mem_of_getElem? (i := 52) (l := q_LK1) rfl))
theorem l_13_27 : Cond.methodLink (q_own 13) 27 yX11_creditor ∈ q_TB := q_LKw1 _ (List.mem_map_of_mem (f := fun e : Nat × Nat × MethodName => Cond.methodLink (q_own e.1) e.2.1 e.2.2) (List.mem_of_getElem? (i := 53) (l := q_LK1) rfl))
theorem l_11_188 : Cond.methodLink (q_own 11) 188 yX11_requireCreditor ∈ q_TB := q_LKw1 _ (List.mem_map_of_mem (f := fun e : Nat × Nat × MethodName => Cond.methodLink (q_own e.1) e.2.1 e.2.2) (List.mem_of_getElem? (i := 54) (l := q_LK1) rfl))
theorem l_11_441 : Cond.methodLink (q_own 11) 441 yX11_requireSuch ∈ q_TB := q_LKw1 _ (List.mem_map_of_mem (f := fun e : Nat × Nat × MethodName => Cond.methodLink (q_own e.1) e.2.1 e.2.2) (List.mem_of_getElem? (i := 55) (l := q_LK1) rfl))
theorem l_11_198 : Cond.methodLink (q_own 11) 198 yX6_debtsTo ∈ q_TB := q_LKw1 _ (List.mem_map_of_mem (f := fun e : Nat × Nat × MethodName => Cond.methodLink (q_own e.1) e.2.1 e.2.2) (List.mem_of_getElem? (i := 56) (l := q_LK1) rfl))
theorem l_13_33 : Cond.methodLink (q_own 13) 33 yX11_debt ∈ q_TB := q_LKw1 _ (List.mem_map_of_mem (f := fun e : Nat × Nat × MethodName => Cond.methodLink (q_own e.1) e.2.1 e.2.2) (List.mem_of_getElem? (i := 57) (l := q_LK1) rfl))
theorem l_11_205 : Cond.methodLink (q_own 11) 205 yX11_requireDebt ∈ q_TB := q_LKw1 _ (List.mem_map_of_mem (f := fun e : Nat × Nat × MethodName => Cond.methodLink (q_own e.1) e.2.1 e.2.2) (List.mem_of_getElem? (i := 58) (l := q_LK1) rfl))
theorem l_11_208 : Cond.methodLink (q_own 11) 208 yX6_holder ∈ q_TB := q_LKw1 _ (List.mem_map_of_mem (f := fun e : Nat × Nat × MethodName => Cond.methodLink (q_own e.1) e.2.1 e.2.2) (List.mem_of_getElem? (i := 59) (l := q_LK1) rfl))
theorem l_11_215 : Cond.methodLink (q_own 11) 215 yX6_owed ∈ q_TB := q_LKw1 _ (List.mem_map_of_mem (f := fun e : Nat × Nat × MethodName => Cond.methodLink (q_own e.1) e.2.1 e.2.2) (List.mem_of_getElem? (i := 60) (l := q_LK1) rfl))
theorem l_11_224 : Cond.methodLink (q_own 11) 224 yX6_defaulted ∈ q_TB := q_LKw1 _ (List.mem_map_of_mem (f := fun e : Nat × Nat × MethodName => Cond.methodLink (q_own e.1) e.2.1 e.2.2) (List.mem_of_getElem? (i := 61) (l := q_LK1) rfl))
theorem l_11_227 : Cond.methodLink (q_own 11) 227 yX6_paid ∈ q_TB := q_LKw1 _ (List.mem_map_of_mem (f := fun e : Nat × Nat × MethodName => Cond.methodLink (q_own e.1) e.2.1 e.2.2) (List.mem_of_getElem? (i := 62) (l := q_LK1) rfl))
theorem l_13_36 : Cond.methodLink (q_own 13) 36 yX11_light ∈ q_TB := q_LKw1 _ (List.mem_map_of_mem (f := fun e : Nat × Nat × MethodName => Cond.methodLink (q_own e.1) e.2.1 e.2.2) (List.mem_of_getElem? (i := 63) (l := q_LK1) rfl))
theorem l_11_230 : Cond.methodLink (q_own 11) 230 yX11_isColour ∈ q_TB := q_LKw1 _ (List.mem_map_of_mem (f := fun e : Nat × Nat × MethodName => Cond.methodLink (q_own e.1) e.2.1 e.2.2) (List.mem_of_getElem? (i := 64) (l := q_LK1) rfl))
theorem l_11_234 : Cond.methodLink (q_own 11) 234 yX6_unspent ∈ q_TB := q_LKw1 _ (List.mem_map_of_mem (f := fun e : Nat × Nat × MethodName => Cond.methodLink (q_own e.1) e.2.1 e.2.2) (List.mem_of_getElem? (i := 65) (l := q_LK1) rfl))
theorem l_11_240 : Cond.methodLink (q_own 11) 240 yX6_lent ∈ q_TB := q_LKw1 _ (List.mem_map_of_mem (f := fun e : Nat × Nat × MethodName => Cond.methodLink (q_own e.1) e.2.1 e.2.2) (List.mem_of_getElem? (i := 66) (l := q_LK1) rfl))
theorem l_11_243 : Cond.methodLink (q_own 11) 243 yX6_owedOf ∈ q_TB := q_LKw1 _ (List.mem_map_of_mem (f := fun e : Nat × Nat × MethodName => Cond.methodLink (q_own e.1) e.2.1 e.2.2) (List.mem_of_getElem? (i := 67) (l := q_LK1) rfl))
theorem l_11_246 : Cond.methodLink (q_own 11) 246 yX6_paidOf ∈ q_TB := q_LKw1 _ (List.mem_map_of_mem (f := fun e : Nat × Nat × MethodName => Cond.methodLink (q_own e.1) e.2.1 e.2.2) (List.mem_of_getElem? (i := 68) (l := q_LK1) rfl))
theorem l_6_114 : Cond.methodLink (q_own 6) 114 yX6_paid ∈ q_TB := q_LKw1 _ (List.mem_map_of_mem (f := fun e : Nat × Nat × MethodName => Cond.methodLink (q_own e.1) e.2.1 e.2.2) (List.mem_of_getElem? (i := 69) (l := q_LK1) rfl))
theorem l_13_39 : Cond.methodLink (q_own 13) 39 yX11_dusk ∈ q_TB := q_LKw1 _ (List.mem_map_of_mem (f := fun e : Nat × Nat × MethodName => Cond.methodLink (q_own e.1) e.2.1 e.2.2) (List.mem_of_getElem? (i := 70) (l := q_LK1) rfl))
theorem l_11_249 : Cond.methodLink (q_own 11) 249 yX11_isDusk ∈ q_TB := q_LKw1 _ (List.mem_map_of_mem (f := fun e : Nat × Nat × MethodName => Cond.methodLink (q_own e.1) e.2.1 e.2.2) (List.mem_of_getElem? (i := 71) (l := q_LK1) rfl))
theorem l_11_252 : Cond.methodLink (q_own 11) 252 yX2_shine ∈ q_TB := q_LKw1 _ (List.mem_map_of_mem (f := fun e : Nat × Nat × MethodName => Cond.methodLink (q_own e.1) e.2.1 e.2.2) (List.mem_of_getElem? (i := 72) (l := q_LK1) rfl))
theorem l_13_42 : Cond.methodLink (q_own 13) 42 yX11_would ∈ q_TB := q_LKw1 _ (List.mem_map_of_mem (f := fun e : Nat × Nat × MethodName => Cond.methodLink (q_own e.1) e.2.1 e.2.2) (List.mem_of_getElem? (i := 73) (l := q_LK1) rfl))
theorem l_11_256 : Cond.methodLink (q_own 11) 256 yX5_growth ∈ q_TB := q_LKw1 _ (List.mem_map_of_mem (f := fun e : Nat × Nat × MethodName => Cond.methodLink (q_own e.1) e.2.1 e.2.2) (List.mem_of_getElem? (i := 74) (l := q_LK1) rfl))
theorem l_13_46 : Cond.methodLink (q_own 13) 46 yX11_grows ∈ q_TB := q_LKw1 _ (List.mem_map_of_mem (f := fun e : Nat × Nat × MethodName => Cond.methodLink (q_own e.1) e.2.1 e.2.2) (List.mem_of_getElem? (i := 75) (l := q_LK1) rfl))
theorem l_11_260 : Cond.methodLink (q_own 11) 260 yX6_growth ∈ q_TB := q_LKw1 _ (List.mem_map_of_mem (f := fun e : Nat × Nat × MethodName => Cond.methodLink (q_own e.1) e.2.1 e.2.2) (List.mem_of_getElem? (i := 76) (l := q_LK1) rfl))
theorem l_13_49 : Cond.methodLink (q_own 13) 49 yX11_best ∈ q_TB := q_LKw1 _ (List.mem_map_of_mem (f := fun e : Nat × Nat × MethodName => Cond.methodLink (q_own e.1) e.2.1 e.2.2) (List.mem_of_getElem? (i := 77) (l := q_LK1) rfl))
theorem l_11_263 : Cond.methodLink (q_own 11) 263 yX3_choose ∈ q_TB := q_LKw1 _ (List.mem_map_of_mem (f := fun e : Nat × Nat × MethodName => Cond.methodLink (q_own e.1) e.2.1 e.2.2) (List.mem_of_getElem? (i := 78) (l := q_LK1) rfl))
theorem l_3_24 : Cond.methodLink (q_own 3) 24 yX6_growth ∈ q_TB := q_LKw1 _ (List.mem_map_of_mem (f := fun e : Nat × Nat × MethodName => Cond.methodLink (q_own e.1) e.2.1 e.2.2) (List.mem_of_getElem? (i := 79) (l := q_LK1) rfl))
theorem l_3_30 : Cond.methodLink (q_own 3) 30 yX6_unspent ∈ q_TB := q_LKw1 _ (List.mem_map_of_mem (f := fun e : Nat × Nat × MethodName => Cond.methodLink (q_own e.1) e.2.1 e.2.2) (List.mem_of_getElem? (i := 80) (l := q_LK1) rfl))
theorem l_3_40 : Cond.methodLink (q_own 3) 40 yX3_branch ∈ q_TB := q_LKw1 _ (List.mem_map_of_mem (f := fun e : Nat × Nat × MethodName => Cond.methodLink (q_own e.1) e.2.1 e.2.2) (List.mem_of_getElem? (i := 81) (l := q_LK1) rfl))
theorem l_3_44 : Cond.methodLink (q_own 3) 44 yX6_owed ∈ q_TB := q_LKw1 _ (List.mem_map_of_mem (f := fun e : Nat × Nat × MethodName => Cond.methodLink (q_own e.1) e.2.1 e.2.2) (List.mem_of_getElem? (i := 82) (l := q_LK1) rfl))
theorem l_13_52 : Cond.methodLink (q_own 13) 52 yX11_left ∈ q_TB := q_LKw1 _ (List.mem_map_of_mem (f := fun e : Nat × Nat × MethodName => Cond.methodLink (q_own e.1) e.2.1 e.2.2) (List.mem_of_getElem? (i := 83) (l := q_LK1) rfl))
theorem l_11_276 : Cond.methodLink (q_own 11) 276 yX4_owedBehind ∈ q_TB := q_LKw1 _ (List.mem_map_of_mem (f := fun e : Nat × Nat × MethodName => Cond.methodLink (q_own e.1) e.2.1 e.2.2) (List.mem_of_getElem? (i := 84) (l := q_LK1) rfl))
theorem l_13_55 : Cond.methodLink (q_own 13) 55 yX11_delay ∈ q_TB := q_LKw1 _ (List.mem_map_of_mem (f := fun e : Nat × Nat × MethodName => Cond.methodLink (q_own e.1) e.2.1 e.2.2) (List.mem_of_getElem? (i := 85) (l := q_LK1) rfl))
theorem l_11_280 : Cond.methodLink (q_own 11) 280 yX4_dusksToWait ∈ q_TB := q_LKw1 _ (List.mem_map_of_mem (f := fun e : Nat × Nat × MethodName => Cond.methodLink (q_own e.1) e.2.1 e.2.2) (List.mem_of_getElem? (i := 86) (l := q_LK1) rfl))
theorem l_4_37 : Cond.methodLink (q_own 4) 37 yX6_owed ∈ q_TB := q_LKw1 _ (List.mem_map_of_mem (f := fun e : Nat × Nat × MethodName => Cond.methodLink (q_own e.1) e.2.1 e.2.2) (List.mem_of_getElem? (i := 87) (l := q_LK1) rfl))
theorem l_4_41 : Cond.methodLink (q_own 4) 41 yX6_paidToday ∈ q_TB := q_LKw1 _ (List.mem_map_of_mem (f := fun e : Nat × Nat × MethodName => Cond.methodLink (q_own e.1) e.2.1 e.2.2) (List.mem_of_getElem? (i := 88) (l := q_LK1) rfl))
theorem l_4_44 : Cond.methodLink (q_own 4) 44 yX6_growthOf ∈ q_TB := q_LKw1 _ (List.mem_map_of_mem (f := fun e : Nat × Nat × MethodName => Cond.methodLink (q_own e.1) e.2.1 e.2.2) (List.mem_of_getElem? (i := 89) (l := q_LK1) rfl))
theorem l_13_58 : Cond.methodLink (q_own 13) 58 yX11_weds ∈ q_TB := q_LKw1 _ (List.mem_map_of_mem (f := fun e : Nat × Nat × MethodName => Cond.methodLink (q_own e.1) e.2.1 e.2.2) (List.mem_of_getElem? (i := 90) (l := q_LK1) rfl))
theorem l_11_290 : Cond.methodLink (q_own 11) 290 yX11_requireWedding ∈ q_TB := q_LKw1 _ (List.mem_map_of_mem (f := fun e : Nat × Nat × MethodName => Cond.methodLink (q_own e.1) e.2.1 e.2.2) (List.mem_of_getElem? (i := 91) (l := q_LK1) rfl))
theorem l_13_61 : Cond.methodLink (q_own 13) 61 yX11_choices ∈ q_TB := q_LKw1 _ (List.mem_map_of_mem (f := fun e : Nat × Nat × MethodName => Cond.methodLink (q_own e.1) e.2.1 e.2.2) (List.mem_of_getElem? (i := 92) (l := q_LK1) rfl))
theorem l_11_296 : Cond.methodLink (q_own 11) 296 yX2_fittingDusks ∈ q_TB := q_LKw1 _ (List.mem_map_of_mem (f := fun e : Nat × Nat × MethodName => Cond.methodLink (q_own e.1) e.2.1 e.2.2) (List.mem_of_getElem? (i := 93) (l := q_LK1) rfl))
theorem l_13_64 : Cond.methodLink (q_own 13) 64 yX11_sees ∈ q_TB := q_LKw1 _ (List.mem_map_of_mem (f := fun e : Nat × Nat × MethodName => Cond.methodLink (q_own e.1) e.2.1 e.2.2) (List.mem_of_getElem? (i := 94) (l := q_LK1) rfl))
theorem l_11_306 : Cond.methodLink (q_own 11) 306 yX2_showsSea ∈ q_TB := q_LKw1 _ (List.mem_map_of_mem (f := fun e : Nat × Nat × MethodName => Cond.methodLink (q_own e.1) e.2.1 e.2.2) (List.mem_of_getElem? (i := 95) (l := q_LK1) rfl))
theorem l_13_68 : Cond.methodLink (q_own 13) 68 yX11_eyes ∈ q_TB := q_LKw1 _ (List.mem_map_of_mem (f := fun e : Nat × Nat × MethodName => Cond.methodLink (q_own e.1) e.2.1 e.2.2) (List.mem_of_getElem? (i := 96) (l := q_LK1) rfl))
theorem l_13_71 : Cond.methodLink (q_own 13) 71 yX11_chairs ∈ q_TB := q_LKw1 _ (List.mem_map_of_mem (f := fun e : Nat × Nat × MethodName => Cond.methodLink (q_own e.1) e.2.1 e.2.2) (List.mem_of_getElem? (i := 97) (l := q_LK1) rfl))
theorem l_11_310 : Cond.methodLink (q_own 11) 310 yX11_fewestChairs ∈ q_TB := q_LKw1 _ (List.mem_map_of_mem (f := fun e : Nat × Nat × MethodName => Cond.methodLink (q_own e.1) e.2.1 e.2.2) (List.mem_of_getElem? (i := 98) (l := q_LK1) rfl))
theorem l_11_447 : Cond.methodLink (q_own 11) 447 yX2_firstSeat ∈ q_TB := q_LKw1 _ (List.mem_map_of_mem (f := fun e : Nat × Nat × MethodName => Cond.methodLink (q_own e.1) e.2.1 e.2.2) (List.mem_of_getElem? (i := 99) (l := q_LK1) rfl))
def q_LK2 : List (Nat × Nat × MethodName) := [(11, 313, yX11_firstChairs), (13, 74, yX11_gets), (11, 316, yX6_claim), (11, 320, yX11_levelOf), (11, 450, yX11_givenBy), (13, 77, yX11_owes), (11, 328, yX2_loan), (13, 80, yX11_net), (11, 331, yX2_netOf), (2, 173, yX2_loan), (13, 83, yX11_struck), (11, 334, yX2_leastSum), (2, 176, yX2_netOf), (11, 337, yX2_loansInAll), (13, 86, yX11_look), (11, 343, yX1_findLook), (1, 80, yX1_rightMoves), (1, 84, yX1_isInLine), (1, 88, yX1_mostAlike), (1, 96, yX1_alike), (1, 92, yX1_offerLook), (13, 89, yX11_settle), (11, 356, yX11_areSettleable), (11, 360, yX11_payOff), (11, 364, yX11_waitLoss), (13, 93, yX11_now), (13, 97, yX11_bids), (11, 373, yX0_findRests), (0, 17, yX0_bestGain), (0, 21, yX0_gain), (0, 24, yX0_addRest), (11, 385, yX0_gain), (13, 100, yX11_has), (13, 103, yX11_decade), (11, 389, yX4_liveDecade), (4, 67, yX6_loseLight), (11, 393, yX4_owedThen), (11, 396, yX4_inDefaultThen), (4, 70, yX6_inDefault), (13, 107, yX11_span), (13, 110, yX11_brightest), (13, 128, yX12_thrown), (13, 116, yX12_init), (12, 126, yX12_clears), (12, 129, yX12_sets), (12, 208, yX12_copies), (12, 227, yX12_lightOf), (13, 121, yX12_feed), (13, 144, yX12_fault), (13, 127, yX12_coast), (12, 270, yX12_may), (12, 274, yX12_begins), (12, 164, yX12_fine), (12, 278, yX12_isMore), (12, 147, yX12_here), (12, 281, yX12_isCreditor), (12, 265, yX12_standsHere), (12, 151, yX12_isSmall), (12, 284, yX12_isWedding), (12, 231, yX12_word), (12, 236, yX12_of), (12, 171, yX12_wrong), (12, 249, yX12_pass), (12, 288, yX12_readCreditor), (12, 254, yX12_readNumber), (12, 168, yX12_isDigit), (12, 291, yX12_readWedding), (12, 257, yX12_readColour), (12, 246, yX12_colourHere), (12, 294, yX12_readRow), (12, 297, yX12_sign), (12, 300, yX12_result), (13, 134, yX12_law), (12, 319, yX12_readSum), (12, 307, yX12_readProduct), (12, 313, yX12_readUnit), (12, 316, yX12_opensOne), (12, 310, yX12_emit), (12, 336, yX12_readTwo), (12, 341, yX12_factHere), (13, 137, yX12_work), (12, 366, yX12_readStep), (12, 356, yX12_tellsStep), (12, 369, yX12_take), (12, 381, yX12_goesSteps), (12, 384, yX12_goes), (12, 403, yX12_goesNext), (12, 397, yX12_passes), (12, 400, yX12_growsOf), (12, 388, yX12_lastOf), (12, 391, yX12_colourOf), (12, 394, yX12_growsNow), (12, 348, yX12_valueNow), (12, 344, yX12_both), (12, 406, yX12_pays), (13, 140, yX12_book), (13, 148, yX12_undo), (13, 151, yX12_told), (12, 410, yX12_within), (12, 413, yX12_owedAll)]
set_option maxRecDepth 100000 in
theorem q_LKw2 : ∀ w ∈ q_LK2.map (fun e => Cond.methodLink (q_own e.1) e.2.1 e.2.2), w ∈ q_TB := q_inTB [1392, 1400, 1404, 1405, 1409, 1417, 1421, 1428, 1432, 1436, 1440, 1444, 1448, 1450, 1457, 1461, 1465, 1466, 1470, 1473, 1477, 1484, 1488, 1491, 1494, 1506, 1513, 1517, 1521, 1524, 1528, 1532, 1536, 1543, 1547, 1552, 1556, 1560, 1564, 1568, 1576, 1580, 1586, 1590, 1594, 1598, 1602, 1809, 1813, 1817, 1821, 1825, 1829, 1833, 1837, 1841, 1846, 1852, 1855, 1860, 1865, 1873, 1877, 1881, 1885, 1889, 1892, 1896, 1900, 1908, 1912, 1916, 1920, 1924, 1928, 1932, 1936, 1940, 1945, 1950, 1960, 1964, 1969, 1976, 1980, 1984, 1988, 1992, 1996, 2000, 2004, 2008, 2012, 2016, 2019, 2023, 2027, 2031, 2035, 2038] (by decide +kernel) (by decide +kernel)
theorem l_11_313 : Cond.methodLink (q_own 11) 313 yX11_firstChairs ∈ q_TB := q_LKw2 _ (List.mem_map_of_mem (f := fun e : Nat × Nat × MethodName => Cond.methodLink (q_own e.1) e.2.1 e.2.2) (List.mem_of_getElem? (i := 0) (l := q_LK2) rfl))
theorem l_13_74 : Cond.methodLink (q_own 13) 74 yX11_gets ∈ q_TB := q_LKw2 _ (List.mem_map_of_mem (f := fun e : Nat × Nat × MethodName => Cond.methodLink (q_own e.1) e.2.1 e.2.2) (List.mem_of_getElem? (i := 1) (l := q_LK2) rfl))
theorem l_11_316 : Cond.methodLink (q_own 11) 316 yX6_claim ∈ q_TB := q_LKw2 _ (List.mem_map_of_mem (f := fun e : Nat × Nat × MethodName => Cond.methodLink (q_own e.1) e.2.1 e.2.2) (List.mem_of_getElem? (i := 2) (l := q_LK2) rfl))
theorem l_11_320 : Cond.methodLink (q_own 11) 320 yX11_levelOf ∈ q_TB := q_LKw2 _ (List.mem_map_of_mem (f := fun e : Nat × Nat × MethodName => Cond.methodLink (q_own e.1) e.2.1 e.2.2) (List.mem_of_getElem? (i := 3) (l := q_LK2) rfl))
theorem l_11_450 : Cond.methodLink (q_own 11) 450 yX11_givenBy ∈ q_TB := q_LKw2 _ (List.mem_map_of_mem (f := fun e : Nat × Nat × MethodName => Cond.methodLink (q_own e.1) e.2.1 e.2.2) (List.mem_of_getElem? (i := 4) (l := q_LK2) rfl))
theorem l_13_77 : Cond.methodLink (q_own 13) 77 yX11_owes ∈ q_TB := q_LKw2 _ (List.mem_map_of_mem (f := fun e : Nat × Nat × MethodName => Cond.methodLink (q_own e.1) e.2.1 e.2.2) (List.mem_of_getElem? (i := 5) (l := q_LK2) rfl))
theorem l_11_328 : Cond.methodLink (q_own 11) 328 yX2_loan ∈ q_TB := q_LKw2 _ (List.mem_map_of_mem (f := fun e : Nat × Nat × MethodName => Cond.methodLink (q_own e.1) e.2.1 e.2.2) (List.mem_of_getElem? (i := 6) (l := q_LK2) rfl))
theorem l_13_80 : Cond.methodLink (q_own 13) 80 yX11_net ∈ q_TB := q_LKw2 _ (List.mem_map_of_mem (f := fun e : Nat × Nat × MethodName => Cond.methodLink (q_own e.1) e.2.1 e.2.2) (List.mem_of_getElem? (i := 7) (l := q_LK2) rfl))
theorem l_11_331 : Cond.methodLink (q_own 11) 331 yX2_netOf ∈ q_TB := q_LKw2 _ (List.mem_map_of_mem (f := fun e : Nat × Nat × MethodName => Cond.methodLink (q_own e.1) e.2.1 e.2.2) (List.mem_of_getElem? (i := 8) (l := q_LK2) rfl))
theorem l_2_173 : Cond.methodLink (q_own 2) 173 yX2_loan ∈ q_TB := q_LKw2 _ (List.mem_map_of_mem (f := fun e : Nat × Nat × MethodName => Cond.methodLink (q_own e.1) e.2.1 e.2.2) (List.mem_of_getElem? (i := 9) (l := q_LK2) rfl))
theorem l_13_83 : Cond.methodLink (q_own 13) 83 yX11_struck ∈ q_TB := q_LKw2 _ (List.mem_map_of_mem (f := fun e : Nat × Nat × MethodName => Cond.methodLink (q_own e.1) e.2.1 e.2.2) (List.mem_of_getElem? (i := 10) (l := q_LK2) rfl))
theorem l_11_334 : Cond.methodLink (q_own 11) 334 yX2_leastSum ∈ q_TB := q_LKw2 _ (List.mem_map_of_mem (f := fun e : Nat × Nat × MethodName => Cond.methodLink (q_own e.1) e.2.1 e.2.2) (List.mem_of_getElem? (i := 11) (l := q_LK2) rfl))
theorem l_2_176 : Cond.methodLink (q_own 2) 176 yX2_netOf ∈ q_TB := q_LKw2 _ (List.mem_map_of_mem (f := fun e : Nat × Nat × MethodName => Cond.methodLink (q_own e.1) e.2.1 e.2.2) (List.mem_of_getElem? (i := 12) (l := q_LK2) rfl))
theorem l_11_337 : Cond.methodLink (q_own 11) 337 yX2_loansInAll ∈ q_TB := q_LKw2 _ (List.mem_map_of_mem (f := fun e : Nat × Nat × MethodName => Cond.methodLink (q_own e.1) e.2.1 e.2.2) (List.mem_of_getElem? (i := 13) (l := q_LK2) rfl))
theorem l_13_86 : Cond.methodLink (q_own 13) 86 yX11_look ∈ q_TB := q_LKw2 _ (List.mem_map_of_mem (f := fun e : Nat × Nat × MethodName => Cond.methodLink (q_own e.1) e.2.1 e.2.2) (List.mem_of_getElem? (i := 14) (l := q_LK2) rfl))
theorem l_11_343 : Cond.methodLink (q_own 11) 343 yX1_findLook ∈ q_TB := q_LKw2 _ (List.mem_map_of_mem (f := fun e : Nat × Nat × MethodName => Cond.methodLink (q_own e.1) e.2.1 e.2.2) (List.mem_of_getElem? (i := 15) (l := q_LK2) rfl))
theorem l_1_80 : Cond.methodLink (q_own 1) 80 yX1_rightMoves ∈ q_TB := q_LKw2 _ (List.mem_map_of_mem (f := fun e : Nat × Nat × MethodName => Cond.methodLink (q_own e.1) e.2.1 e.2.2) (List.mem_of_getElem? (i := 16) (l := q_LK2) rfl))
theorem l_1_84 : Cond.methodLink (q_own 1) 84 yX1_isInLine ∈ q_TB := q_LKw2 _ (List.mem_map_of_mem (f := fun e : Nat × Nat × MethodName => Cond.methodLink (q_own e.1) e.2.1 e.2.2) (List.mem_of_getElem? (i := 17) (l := q_LK2) rfl))
theorem l_1_88 : Cond.methodLink (q_own 1) 88 yX1_mostAlike ∈ q_TB := q_LKw2 _ (List.mem_map_of_mem (f := fun e : Nat × Nat × MethodName => Cond.methodLink (q_own e.1) e.2.1 e.2.2) (List.mem_of_getElem? (i := 18) (l := q_LK2) rfl))
theorem l_1_96 : Cond.methodLink (q_own 1) 96 yX1_alike ∈ q_TB := q_LKw2 _ (List.mem_map_of_mem (f := fun e : Nat × Nat × MethodName => Cond.methodLink (q_own e.1) e.2.1 e.2.2) (List.mem_of_getElem? (i := 19) (l := q_LK2) rfl))
theorem l_1_92 : Cond.methodLink (q_own 1) 92 yX1_offerLook ∈ q_TB := q_LKw2 _ (List.mem_map_of_mem (f := fun e : Nat × Nat × MethodName => Cond.methodLink (q_own e.1) e.2.1 e.2.2) (List.mem_of_getElem? (i := 20) (l := q_LK2) rfl))
theorem l_13_89 : Cond.methodLink (q_own 13) 89 yX11_settle ∈ q_TB := q_LKw2 _ (List.mem_map_of_mem (f := fun e : Nat × Nat × MethodName => Cond.methodLink (q_own e.1) e.2.1 e.2.2) (List.mem_of_getElem? (i := 21) (l := q_LK2) rfl))
theorem l_11_356 : Cond.methodLink (q_own 11) 356 yX11_areSettleable ∈ q_TB := q_LKw2 _ (List.mem_map_of_mem (f := fun e : Nat × Nat × MethodName => Cond.methodLink (q_own e.1) e.2.1 e.2.2) (List.mem_of_getElem? (i := 22) (l := q_LK2) rfl))
theorem l_11_360 : Cond.methodLink (q_own 11) 360 yX11_payOff ∈ q_TB := q_LKw2 _ (List.mem_map_of_mem (f := fun e : Nat × Nat × MethodName => Cond.methodLink (q_own e.1) e.2.1 e.2.2) (List.mem_of_getElem? (i := 23) (l := q_LK2) rfl))
theorem l_11_364 : Cond.methodLink (q_own 11) 364 yX11_waitLoss ∈ q_TB := q_LKw2 _ (List.mem_map_of_mem (f := fun e : Nat × Nat × MethodName => Cond.methodLink (q_own e.1) e.2.1 e.2.2) (List.mem_of_getElem? (i := 24) (l := q_LK2) rfl))
theorem l_13_93 : Cond.methodLink (q_own 13) 93 yX11_now ∈ q_TB := q_LKw2 _ (List.mem_map_of_mem (f := fun e : Nat × Nat × MethodName => Cond.methodLink (q_own e.1) e.2.1 e.2.2) (List.mem_of_getElem? (i := 25) (l := q_LK2) rfl))
theorem l_13_97 : Cond.methodLink (q_own 13) 97 yX11_bids ∈ q_TB := q_LKw2 _ (List.mem_map_of_mem (f := fun e : Nat × Nat × MethodName => Cond.methodLink (q_own e.1) e.2.1 e.2.2) (List.mem_of_getElem? (i := 26) (l := q_LK2) rfl))
theorem l_11_373 : Cond.methodLink (q_own 11) 373 yX0_findRests ∈ q_TB := q_LKw2 _ (List.mem_map_of_mem (f := fun e : Nat × Nat × MethodName => Cond.methodLink (q_own e.1) e.2.1 e.2.2) (List.mem_of_getElem? (i := 27) (l := q_LK2) rfl))
theorem l_0_17 : Cond.methodLink (q_own 0) 17 yX0_bestGain ∈ q_TB := q_LKw2 _ (List.mem_map_of_mem (f := fun e : Nat × Nat × MethodName => Cond.methodLink (q_own e.1) e.2.1 e.2.2) (List.mem_of_getElem? (i := 28) (l := q_LK2) rfl))
theorem l_0_21 : Cond.methodLink (q_own 0) 21 yX0_gain ∈ q_TB := q_LKw2 _ (List.mem_map_of_mem (f := fun e : Nat × Nat × MethodName => Cond.methodLink (q_own e.1) e.2.1 e.2.2) (List.mem_of_getElem? (i := 29) (l := q_LK2) rfl))
theorem l_0_24 : Cond.methodLink (q_own 0) 24 yX0_addRest ∈ q_TB := q_LKw2 _ (List.mem_map_of_mem (f := fun e : Nat × Nat × MethodName => Cond.methodLink (q_own e.1) e.2.1 e.2.2) (List.mem_of_getElem? (i := 30) (l := q_LK2) rfl))
theorem l_11_385 : Cond.methodLink (q_own 11) 385 yX0_gain ∈ q_TB := q_LKw2 _ (List.mem_map_of_mem (f := fun e : Nat × Nat × MethodName => Cond.methodLink (q_own e.1) e.2.1 e.2.2) (List.mem_of_getElem? (i := 31) (l := q_LK2) rfl))
theorem l_13_100 : Cond.methodLink (q_own 13) 100 yX11_has ∈ q_TB := q_LKw2 _ (List.mem_map_of_mem (f := fun e : Nat × Nat × MethodName => Cond.methodLink (q_own e.1) e.2.1 e.2.2) (List.mem_of_getElem? (i := 32) (l := q_LK2) rfl))
theorem l_13_103 : Cond.methodLink (q_own 13) 103 yX11_decade ∈ q_TB := q_LKw2 _ (List.mem_map_of_mem (f := fun e : Nat × Nat × MethodName => Cond.methodLink (q_own e.1) e.2.1 e.2.2) (List.mem_of_getElem? (i := 33) (l := q_LK2) rfl))
theorem l_11_389 : Cond.methodLink (q_own 11) 389 yX4_liveDecade ∈ q_TB := q_LKw2 _ (List.mem_map_of_mem (f := fun e : Nat × Nat × MethodName => Cond.methodLink (q_own e.1) e.2.1 e.2.2) (List.mem_of_getElem? (i := 34) (l := q_LK2) rfl))
theorem l_4_67 : Cond.methodLink (q_own 4) 67 yX6_loseLight ∈ q_TB := q_LKw2 _ (List.mem_map_of_mem (f := fun e : Nat × Nat × MethodName => Cond.methodLink (q_own e.1) e.2.1 e.2.2) (List.mem_of_getElem? (i := 35) (l := q_LK2) rfl))
theorem l_11_393 : Cond.methodLink (q_own 11) 393 yX4_owedThen ∈ q_TB := q_LKw2 _ (List.mem_map_of_mem (f := fun e : Nat × Nat × MethodName => Cond.methodLink (q_own e.1) e.2.1 e.2.2) (List.mem_of_getElem? (i := 36) (l := q_LK2) rfl))
theorem l_11_396 : Cond.methodLink (q_own 11) 396 yX4_inDefaultThen ∈ q_TB := q_LKw2 _ (List.mem_map_of_mem (f := fun e : Nat × Nat × MethodName => Cond.methodLink (q_own e.1) e.2.1 e.2.2) (List.mem_of_getElem? (i := 37) (l := q_LK2) rfl))
theorem l_4_70 : Cond.methodLink (q_own 4) 70 yX6_inDefault ∈ q_TB := q_LKw2 _ (List.mem_map_of_mem (f := fun e : Nat × Nat × MethodName => Cond.methodLink (q_own e.1) e.2.1 e.2.2) (List.mem_of_getElem? (i := 38) (l := q_LK2) rfl))
theorem l_13_107 : Cond.methodLink (q_own 13) 107 yX11_span ∈ q_TB := q_LKw2 _ (List.mem_map_of_mem (f := fun e : Nat × Nat × MethodName => Cond.methodLink (q_own e.1) e.2.1 e.2.2) (List.mem_of_getElem? (i := 39) (l := q_LK2) rfl))
theorem l_13_110 : Cond.methodLink (q_own 13) 110 yX11_brightest ∈ q_TB := q_LKw2 _ (List.mem_map_of_mem (f := fun e : Nat × Nat × MethodName => Cond.methodLink (q_own e.1) e.2.1 e.2.2) (List.mem_of_getElem? (i := 40) (l := q_LK2) rfl))
theorem l_13_128 : Cond.methodLink (q_own 13) 128 yX12_thrown ∈ q_TB := q_LKw2 _ (List.mem_map_of_mem (f := fun e : Nat × Nat × MethodName => Cond.methodLink (q_own e.1) e.2.1 e.2.2) (List.mem_of_getElem? (i := 41) (l := q_LK2) rfl))
theorem l_13_116 : Cond.methodLink (q_own 13) 116 yX12_init ∈ q_TB := q_LKw2 _ (List.mem_map_of_mem (f := fun e : Nat × Nat × MethodName => Cond.methodLink (q_own e.1) e.2.1 e.2.2) (List.mem_of_getElem? (i := 42) (l := q_LK2) rfl))
theorem l_12_126 : Cond.methodLink (q_own 12) 126 yX12_clears ∈ q_TB := q_LKw2 _ (List.mem_map_of_mem (f := fun e : Nat × Nat × MethodName => Cond.methodLink (q_own e.1) e.2.1 e.2.2) (List.mem_of_getElem? (i := 43) (l := q_LK2) rfl))
theorem l_12_129 : Cond.methodLink (q_own 12) 129 yX12_sets ∈ q_TB := q_LKw2 _ (List.mem_map_of_mem (f := fun e : Nat × Nat × MethodName => Cond.methodLink (q_own e.1) e.2.1 e.2.2) (List.mem_of_getElem? (i := 44) (l := q_LK2) rfl))
theorem l_12_208 : Cond.methodLink (q_own 12) 208 yX12_copies ∈ q_TB := q_LKw2 _ (List.mem_map_of_mem (f := fun e : Nat × Nat × MethodName => Cond.methodLink (q_own e.1) e.2.1 e.2.2) (List.mem_of_getElem? (i := 45) (l := q_LK2) rfl))
theorem l_12_227 : Cond.methodLink (q_own 12) 227 yX12_lightOf ∈ q_TB := q_LKw2 _ (List.mem_map_of_mem (f := fun e : Nat × Nat × MethodName => Cond.methodLink (q_own e.1) e.2.1 e.2.2) (List.mem_of_getElem? (i := 46) (l := q_LK2) rfl))
theorem l_13_121 : Cond.methodLink (q_own 13) 121 yX12_feed ∈ q_TB := q_LKw2 _ (List.mem_map_of_mem (f := fun e : Nat × Nat × MethodName => Cond.methodLink (q_own e.1) e.2.1 e.2.2) (List.mem_of_getElem? (i := 47) (l := q_LK2) rfl))
theorem l_13_144 : Cond.methodLink (q_own 13) 144 yX12_fault ∈ q_TB := q_LKw2 _ (List.mem_map_of_mem (f := fun e : Nat × Nat × MethodName => Cond.methodLink (q_own e.1) e.2.1 e.2.2) (List.mem_of_getElem? (i := 48) (l := q_LK2) rfl))
theorem l_13_127 : Cond.methodLink (q_own 13) 127 yX12_coast ∈ q_TB := q_LKw2 _ (List.mem_map_of_mem (f := fun e : Nat × Nat × MethodName => Cond.methodLink (q_own e.1) e.2.1 e.2.2) (List.mem_of_getElem? (i := 49) (l := q_LK2) rfl))
theorem l_12_270 : Cond.methodLink (q_own 12) 270 yX12_may ∈ q_TB := q_LKw2 _ (List.mem_map_of_mem (f := fun e : Nat × Nat × MethodName => Cond.methodLink (q_own e.1) e.2.1 e.2.2) (List.mem_of_getElem? (i := 50) (l := q_LK2) rfl))
theorem l_12_274 : Cond.methodLink (q_own 12) 274 yX12_begins ∈ q_TB := q_LKw2 _ (List.mem_map_of_mem (f := fun e : Nat × Nat × MethodName => Cond.methodLink (q_own e.1) e.2.1 e.2.2) (List.mem_of_getElem? (i := 51) (l := q_LK2) rfl))
theorem l_12_164 : Cond.methodLink (q_own 12) 164 yX12_fine ∈ q_TB := q_LKw2 _ (List.mem_map_of_mem (f := fun e : Nat × Nat × MethodName => Cond.methodLink (q_own e.1) e.2.1 e.2.2) (List.mem_of_getElem? (i := 52) (l := q_LK2) rfl))
theorem l_12_278 : Cond.methodLink (q_own 12) 278 yX12_isMore ∈ q_TB := q_LKw2 _ (List.mem_map_of_mem (f := fun e : Nat × Nat × MethodName => Cond.methodLink (q_own e.1) e.2.1 e.2.2) (List.mem_of_getElem? (i := 53) (l := q_LK2) rfl))
theorem l_12_147 : Cond.methodLink (q_own 12) 147 yX12_here ∈ q_TB := q_LKw2 _ (List.mem_map_of_mem (f := fun e : Nat × Nat × MethodName => Cond.methodLink (q_own e.1) e.2.1 e.2.2) (List.mem_of_getElem? (i := 54) (l := q_LK2) rfl))
theorem l_12_281 : Cond.methodLink (q_own 12) 281 yX12_isCreditor ∈ q_TB := q_LKw2 _ (List.mem_map_of_mem (f := fun e : Nat × Nat × MethodName => Cond.methodLink (q_own e.1) e.2.1 e.2.2) (List.mem_of_getElem? (i := 55) (l := q_LK2) rfl))
theorem l_12_265 : Cond.methodLink (q_own 12) 265 yX12_standsHere ∈ q_TB := q_LKw2 _ (List.mem_map_of_mem (f := fun e : Nat × Nat × MethodName => Cond.methodLink (q_own e.1) e.2.1 e.2.2) (List.mem_of_getElem? (i := 56) (l := q_LK2) rfl))
theorem l_12_151 : Cond.methodLink (q_own 12) 151 yX12_isSmall ∈ q_TB := q_LKw2 _ (List.mem_map_of_mem (f := fun e : Nat × Nat × MethodName => Cond.methodLink (q_own e.1) e.2.1 e.2.2) (List.mem_of_getElem? (i := 57) (l := q_LK2) rfl))
theorem l_12_284 : Cond.methodLink (q_own 12) 284 yX12_isWedding ∈ q_TB := q_LKw2 _ (List.mem_map_of_mem (f := fun e : Nat × Nat × MethodName => Cond.methodLink (q_own e.1) e.2.1 e.2.2) (List.mem_of_getElem? (i := 58) (l := q_LK2) rfl))
theorem l_12_231 : Cond.methodLink (q_own 12) 231 yX12_word ∈ q_TB := q_LKw2 _ (List.mem_map_of_mem (f := fun e : Nat × Nat × MethodName => Cond.methodLink (q_own e.1) e.2.1 e.2.2) (List.mem_of_getElem? (i := 59) (l := q_LK2) rfl))
theorem l_12_236 : Cond.methodLink (q_own 12) 236 yX12_of ∈ q_TB := q_LKw2 _ (List.mem_map_of_mem (f := fun e : Nat × Nat × MethodName => Cond.methodLink (q_own e.1) e.2.1 e.2.2) (List.mem_of_getElem? (i := 60) (l := q_LK2) rfl))
theorem l_12_171 : Cond.methodLink (q_own 12) 171 yX12_wrong ∈ q_TB := q_LKw2 _ (List.mem_map_of_mem (f := fun e : Nat × Nat × MethodName => Cond.methodLink (q_own e.1) e.2.1 e.2.2) (List.mem_of_getElem? (i := 61) (l := q_LK2) rfl))
theorem l_12_249 : Cond.methodLink (q_own 12) 249 yX12_pass ∈ q_TB := q_LKw2 _ (List.mem_map_of_mem (f := fun e : Nat × Nat × MethodName => Cond.methodLink (q_own e.1) e.2.1 e.2.2) (List.mem_of_getElem? (i := 62) (l := q_LK2) rfl))
theorem l_12_288 : Cond.methodLink (q_own 12) 288 yX12_readCreditor ∈ q_TB := q_LKw2 _ (List.mem_map_of_mem (f := fun e : Nat × Nat × MethodName => Cond.methodLink (q_own e.1) e.2.1 e.2.2) (List.mem_of_getElem? (i := 63) (l := q_LK2) rfl))
theorem l_12_254 : Cond.methodLink (q_own 12) 254 yX12_readNumber ∈ q_TB := q_LKw2 _ (List.mem_map_of_mem (f := fun e : Nat × Nat × MethodName => Cond.methodLink (q_own e.1) e.2.1 e.2.2) (List.mem_of_getElem? (i := 64) (l := q_LK2) rfl))
theorem l_12_168 : Cond.methodLink (q_own 12) 168 yX12_isDigit ∈ q_TB := q_LKw2 _ (List.mem_map_of_mem (f := fun e : Nat × Nat × MethodName => Cond.methodLink (q_own e.1) e.2.1 e.2.2) (List.mem_of_getElem? (i := 65) (l := q_LK2) rfl))
theorem l_12_291 : Cond.methodLink (q_own 12) 291 yX12_readWedding ∈ q_TB := q_LKw2 _ (List.mem_map_of_mem (f := fun e : Nat × Nat × MethodName => Cond.methodLink (q_own e.1) e.2.1 e.2.2) (List.mem_of_getElem? (i := 66) (l := q_LK2) rfl))
theorem l_12_257 : Cond.methodLink (q_own 12) 257 yX12_readColour ∈ q_TB := q_LKw2 _ (List.mem_map_of_mem (f := fun e : Nat × Nat × MethodName => Cond.methodLink (q_own e.1) e.2.1 e.2.2) (List.mem_of_getElem? (i := 67) (l := q_LK2) rfl))
theorem l_12_246 : Cond.methodLink (q_own 12) 246 yX12_colourHere ∈ q_TB := q_LKw2 _ (List.mem_map_of_mem (f := fun e : Nat × Nat × MethodName => Cond.methodLink (q_own e.1) e.2.1 e.2.2) (List.mem_of_getElem? (i := 68) (l := q_LK2) rfl))
theorem l_12_294 : Cond.methodLink (q_own 12) 294 yX12_readRow ∈ q_TB := q_LKw2 _ (List.mem_map_of_mem (f := fun e : Nat × Nat × MethodName => Cond.methodLink (q_own e.1) e.2.1 e.2.2) (List.mem_of_getElem? (i := 69) (l := q_LK2) rfl))
theorem l_12_297 : Cond.methodLink (q_own 12) 297 yX12_sign ∈ q_TB := q_LKw2 _ (List.mem_map_of_mem (f := fun e : Nat × Nat × MethodName => Cond.methodLink (q_own e.1) e.2.1 e.2.2) (List.mem_of_getElem? (i := 70) (l := q_LK2) rfl))
theorem l_12_300 : Cond.methodLink (q_own 12) 300 yX12_result ∈ q_TB := q_LKw2 _ (List.mem_map_of_mem (f := fun e : Nat × Nat × MethodName => Cond.methodLink (q_own e.1) e.2.1 e.2.2) (List.mem_of_getElem? (i := 71) (l := q_LK2) rfl))
theorem l_13_134 : Cond.methodLink (q_own 13) 134 yX12_law ∈ q_TB := q_LKw2 _ (List.mem_map_of_mem (f := fun e : Nat × Nat × MethodName => Cond.methodLink (q_own e.1) e.2.1 e.2.2) (List.mem_of_getElem? (i := 72) (l := q_LK2) rfl))
theorem l_12_319 : Cond.methodLink (q_own 12) 319 yX12_readSum ∈ q_TB := q_LKw2 _ (List.mem_map_of_mem (f := fun e : Nat × Nat × MethodName => Cond.methodLink (q_own e.1) e.2.1 e.2.2) (List.mem_of_getElem? (i := 73) (l := q_LK2) rfl))
theorem l_12_307 : Cond.methodLink (q_own 12) 307 yX12_readProduct ∈ q_TB := q_LKw2 _ (List.mem_map_of_mem (f := fun e : Nat × Nat × MethodName => Cond.methodLink (q_own e.1) e.2.1 e.2.2) (List.mem_of_getElem? (i := 74) (l := q_LK2) rfl))
theorem l_12_313 : Cond.methodLink (q_own 12) 313 yX12_readUnit ∈ q_TB := q_LKw2 _ (List.mem_map_of_mem (f := fun e : Nat × Nat × MethodName => Cond.methodLink (q_own e.1) e.2.1 e.2.2) (List.mem_of_getElem? (i := 75) (l := q_LK2) rfl))
theorem l_12_316 : Cond.methodLink (q_own 12) 316 yX12_opensOne ∈ q_TB := q_LKw2 _ (List.mem_map_of_mem (f := fun e : Nat × Nat × MethodName => Cond.methodLink (q_own e.1) e.2.1 e.2.2) (List.mem_of_getElem? (i := 76) (l := q_LK2) rfl))
theorem l_12_310 : Cond.methodLink (q_own 12) 310 yX12_emit ∈ q_TB := q_LKw2 _ (List.mem_map_of_mem (f := fun e : Nat × Nat × MethodName => Cond.methodLink (q_own e.1) e.2.1 e.2.2) (List.mem_of_getElem? (i := 77) (l := q_LK2) rfl))
theorem l_12_336 : Cond.methodLink (q_own 12) 336 yX12_readTwo ∈ q_TB := q_LKw2 _ (List.mem_map_of_mem (f := fun e : Nat × Nat × MethodName => Cond.methodLink (q_own e.1) e.2.1 e.2.2) (List.mem_of_getElem? (i := 78) (l := q_LK2) rfl))
theorem l_12_341 : Cond.methodLink (q_own 12) 341 yX12_factHere ∈ q_TB := q_LKw2 _ (List.mem_map_of_mem (f := fun e : Nat × Nat × MethodName => Cond.methodLink (q_own e.1) e.2.1 e.2.2) (List.mem_of_getElem? (i := 79) (l := q_LK2) rfl))
theorem l_13_137 : Cond.methodLink (q_own 13) 137 yX12_work ∈ q_TB := q_LKw2 _ (List.mem_map_of_mem (f := fun e : Nat × Nat × MethodName => Cond.methodLink (q_own e.1) e.2.1 e.2.2) (List.mem_of_getElem? (i := 80) (l := q_LK2) rfl))
theorem l_12_366 : Cond.methodLink (q_own 12) 366 yX12_readStep ∈ q_TB := q_LKw2 _ (List.mem_map_of_mem (f := fun e : Nat × Nat × MethodName => Cond.methodLink (q_own e.1) e.2.1 e.2.2) (List.mem_of_getElem? (i := 81) (l := q_LK2) rfl))
theorem l_12_356 : Cond.methodLink (q_own 12) 356 yX12_tellsStep ∈ q_TB := q_LKw2 _ (List.mem_map_of_mem (f := fun e : Nat × Nat × MethodName => Cond.methodLink (q_own e.1) e.2.1 e.2.2) (List.mem_of_getElem? (i := 82) (l := q_LK2) rfl))
theorem l_12_369 : Cond.methodLink (q_own 12) 369 yX12_take ∈ q_TB := q_LKw2 _ (List.mem_map_of_mem (f := fun e : Nat × Nat × MethodName => Cond.methodLink (q_own e.1) e.2.1 e.2.2) (List.mem_of_getElem? (i := 83) (l := q_LK2) rfl))
theorem l_12_381 : Cond.methodLink (q_own 12) 381 yX12_goesSteps ∈ q_TB := q_LKw2 _ (List.mem_map_of_mem (f := fun e : Nat × Nat × MethodName => Cond.methodLink (q_own e.1) e.2.1 e.2.2) (List.mem_of_getElem? (i := 84) (l := q_LK2) rfl))
theorem l_12_384 : Cond.methodLink (q_own 12) 384 yX12_goes ∈ q_TB := q_LKw2 _ (List.mem_map_of_mem (f := fun e : Nat × Nat × MethodName => Cond.methodLink (q_own e.1) e.2.1 e.2.2) (List.mem_of_getElem? (i := 85) (l := q_LK2) rfl))
theorem l_12_403 : Cond.methodLink (q_own 12) 403 yX12_goesNext ∈ q_TB := q_LKw2 _ (List.mem_map_of_mem (f := fun e : Nat × Nat × MethodName => Cond.methodLink (q_own e.1) e.2.1 e.2.2) (List.mem_of_getElem? (i := 86) (l := q_LK2) rfl))
theorem l_12_397 : Cond.methodLink (q_own 12) 397 yX12_passes ∈ q_TB := q_LKw2 _ (List.mem_map_of_mem (f := fun e : Nat × Nat × MethodName => Cond.methodLink (q_own e.1) e.2.1 e.2.2) (List.mem_of_getElem? (i := 87) (l := q_LK2) rfl))
theorem l_12_400 : Cond.methodLink (q_own 12) 400 yX12_growsOf ∈ q_TB := q_LKw2 _ (List.mem_map_of_mem (f := fun e : Nat × Nat × MethodName => Cond.methodLink (q_own e.1) e.2.1 e.2.2) (List.mem_of_getElem? (i := 88) (l := q_LK2) rfl))
theorem l_12_388 : Cond.methodLink (q_own 12) 388 yX12_lastOf ∈ q_TB := q_LKw2 _ (List.mem_map_of_mem (f := fun e : Nat × Nat × MethodName => Cond.methodLink (q_own e.1) e.2.1 e.2.2) (List.mem_of_getElem? (i := 89) (l := q_LK2) rfl))
theorem l_12_391 : Cond.methodLink (q_own 12) 391 yX12_colourOf ∈ q_TB := q_LKw2 _ (List.mem_map_of_mem (f := fun e : Nat × Nat × MethodName => Cond.methodLink (q_own e.1) e.2.1 e.2.2) (List.mem_of_getElem? (i := 90) (l := q_LK2) rfl))
theorem l_12_394 : Cond.methodLink (q_own 12) 394 yX12_growsNow ∈ q_TB := q_LKw2 _ (List.mem_map_of_mem (f := fun e : Nat × Nat × MethodName => Cond.methodLink (q_own e.1) e.2.1 e.2.2) (List.mem_of_getElem? (i := 91) (l := q_LK2) rfl))
theorem l_12_348 : Cond.methodLink (q_own 12) 348 yX12_valueNow ∈ q_TB := q_LKw2 _ (List.mem_map_of_mem (f := fun e : Nat × Nat × MethodName => Cond.methodLink (q_own e.1) e.2.1 e.2.2) (List.mem_of_getElem? (i := 92) (l := q_LK2) rfl))
theorem l_12_344 : Cond.methodLink (q_own 12) 344 yX12_both ∈ q_TB := q_LKw2 _ (List.mem_map_of_mem (f := fun e : Nat × Nat × MethodName => Cond.methodLink (q_own e.1) e.2.1 e.2.2) (List.mem_of_getElem? (i := 93) (l := q_LK2) rfl))
theorem l_12_406 : Cond.methodLink (q_own 12) 406 yX12_pays ∈ q_TB := q_LKw2 _ (List.mem_map_of_mem (f := fun e : Nat × Nat × MethodName => Cond.methodLink (q_own e.1) e.2.1 e.2.2) (List.mem_of_getElem? (i := 94) (l := q_LK2) rfl))
theorem l_13_140 : Cond.methodLink (q_own 13) 140 yX12_book ∈ q_TB := q_LKw2 _ (List.mem_map_of_mem (f := fun e : Nat × Nat × MethodName => Cond.methodLink (q_own e.1) e.2.1 e.2.2) (List.mem_of_getElem? (i := 95) (l := q_LK2) rfl))
theorem l_13_148 : Cond.methodLink (q_own 13) 148 yX12_undo ∈ q_TB := q_LKw2 _ (List.mem_map_of_mem (f := fun e : Nat × Nat × MethodName => Cond.methodLink (q_own e.1) e.2.1 e.2.2) (List.mem_of_getElem? (i := 96) (l := q_LK2) rfl))
theorem l_13_151 : Cond.methodLink (q_own 13) 151 yX12_told ∈ q_TB := q_LKw2 _ (List.mem_map_of_mem (f := fun e : Nat × Nat × MethodName => Cond.methodLink (q_own e.1) e.2.1 e.2.2) (List.mem_of_getElem? (i := 97) (l := q_LK2) rfl))
theorem l_12_410 : Cond.methodLink (q_own 12) 410 yX12_within ∈ q_TB := q_LKw2 _ (List.mem_map_of_mem (f := fun e : Nat × Nat × MethodName => Cond.methodLink (q_own e.1) e.2.1 e.2.2) (List.mem_of_getElem? (i := 98) (l := q_LK2) rfl))
theorem l_12_413 : Cond.methodLink (q_own 12) 413 yX12_owedAll ∈ q_TB := q_LKw2 _ (List.mem_map_of_mem (f := fun e : Nat × Nat × MethodName => Cond.methodLink (q_own e.1) e.2.1 e.2.2) (List.mem_of_getElem? (i := 99) (l := q_LK2) rfl))
def q_LK3 : List (Nat × Nat × MethodName) := [(12, 416, yX12_lateAll), (13, 155, yX12_creditor), (12, 419, yX12_isCreditor_), (12, 421, yX12_owedTo), (13, 158, yX12_debt), (12, 424, yX12_isDebt), (13, 161, yX12_light), (12, 427, yX12_isColour), (13, 164, yX12_dusk), (12, 430, yX12_isDusk), (13, 168, yX12_would), (13, 171, yX12_grows), (13, 174, yX12_best), (12, 433, yX12_canEnd), (13, 178, yX12_soon), (12, 439, yX12_paysAll), (12, 436, yX12_isAhead), (13, 181, yX12_left), (13, 184, yX12_delay), (13, 188, yX12_next), (13, 192, yX12_matched), (12, 454, yX12_findWeddings), (12, 448, yX12_mostWith), (12, 445, yX12_finds), (12, 442, yX12_canWed), (12, 451, yX12_isTaken), (13, 195, yX12_weds), (12, 457, yX12_isWedding_), (13, 198, yX12_choices), (13, 201, yX12_sees), (12, 459, yX12_seesFrom), (13, 204, yX12_eyes), (13, 207, yX12_chairs), (12, 465, yX12_chairsOn), (13, 210, yX12_gets), (12, 470, yX12_levelled), (13, 213, yX12_owes), (13, 216, yX12_net), (12, 473, yX12_netOf), (13, 219, yX12_struck), (13, 223, yX12_moved), (12, 476, yX12_movedNow), (13, 226, yX12_look), (12, 479, yX12_isSeen), (12, 482, yX12_worstAt), (13, 230, yX12_settle), (12, 495, yX12_isSettled), (12, 489, yX12_zero), (12, 485, yX12_losesOf), (12, 492, yX12_waits), (12, 498, yX12_least), (13, 233, yX12_now), (13, 236, yX12_bids), (12, 504, yX12_isBest), (12, 501, yX12_hasOf), (13, 239, yX12_has), (13, 243, yX12_decade), (12, 517, yX12_goesOn), (12, 514, yX12_draws), (12, 520, yX12_spentIn), (13, 246, yX12_span), (13, 250, yX12_greatest), (13, 253, yX12_brightest), (13, 257, yX12_image), (12, 528, yX12_keepsAll), (12, 524, yX12_keepsRow), (13, 261, yX12_restore), (13, 265, yX12_status), (13, 269, yX12_count)]
set_option maxRecDepth 100000 in
theorem q_LKw3 : ∀ w ∈ q_LK3.map (fun e => Cond.methodLink (q_own e.1) e.2.1 e.2.2), w ∈ q_TB := q_inTB [2042, 2046, 2050, 2054, 2058, 2062, 2066, 2070, 2073, 2077, 2080, 2084, 2088, 2092, 2096, 2100, 2104, 2108, 2112, 2116, 2120, 2124, 2128, 2132, 2136, 2140, 2144, 2148, 2152, 2156, 2160, 2164, 2168, 2172, 2176, 2181, 2185, 2189, 2193, 2197, 2201, 2205, 2209, 2213, 2217, 2221, 2225, 2228, 2231, 2235, 2239, 2242, 2246, 2250, 2253, 2256, 2260, 2264, 2268, 2273, 2277, 2281, 2285, 2289, 2293, 2297, 2301, 2305, 2309] (by decide +kernel) (by decide +kernel)
theorem l_12_416 : Cond.methodLink (q_own 12) 416 yX12_lateAll ∈ q_TB := q_LKw3 _ (List.mem_map_of_mem (f := fun e : Nat × Nat × MethodName => Cond.methodLink (q_own e.1) e.2.1 e.2.2) (List.mem_of_getElem? (i := 0) (l := q_LK3) rfl))
theorem l_13_155 : Cond.methodLink (q_own 13) 155 yX12_creditor ∈ q_TB := q_LKw3 _ (List.mem_map_of_mem (f := fun e : Nat × Nat × MethodName => Cond.methodLink (q_own e.1) e.2.1 e.2.2) (List.mem_of_getElem? (i := 1) (l := q_LK3) rfl))
theorem l_12_419 : Cond.methodLink (q_own 12) 419 yX12_isCreditor_ ∈ q_TB := q_LKw3 _ (List.mem_map_of_mem (f := fun e : Nat × Nat × MethodName => Cond.methodLink (q_own e.1) e.2.1 e.2.2) (List.mem_of_getElem? (i := 2) (l := q_LK3) rfl))
theorem l_12_421 : Cond.methodLink (q_own 12) 421 yX12_owedTo ∈ q_TB := q_LKw3 _ (List.mem_map_of_mem (f := fun e : Nat × Nat × MethodName => Cond.methodLink (q_own e.1) e.2.1 e.2.2) (List.mem_of_getElem? (i := 3) (l := q_LK3) rfl))
theorem l_13_158 : Cond.methodLink (q_own 13) 158 yX12_debt ∈ q_TB := q_LKw3 _ (List.mem_map_of_mem (f := fun e : Nat × Nat × MethodName => Cond.methodLink (q_own e.1) e.2.1 e.2.2) (List.mem_of_getElem? (i := 4) (l := q_LK3) rfl))
theorem l_12_424 : Cond.methodLink (q_own 12) 424 yX12_isDebt ∈ q_TB := q_LKw3 _ (List.mem_map_of_mem (f := fun e : Nat × Nat × MethodName => Cond.methodLink (q_own e.1) e.2.1 e.2.2) (List.mem_of_getElem? (i := 5) (l := q_LK3) rfl))
theorem l_13_161 : Cond.methodLink (q_own 13) 161 yX12_light ∈ q_TB := q_LKw3 _ (List.mem_map_of_mem (f := fun e : Nat × Nat × MethodName => Cond.methodLink (q_own e.1) e.2.1 e.2.2) (List.mem_of_getElem? (i := 6) (l := q_LK3) rfl))
theorem l_12_427 : Cond.methodLink (q_own 12) 427 yX12_isColour ∈ q_TB := q_LKw3 _ (List.mem_map_of_mem (f := fun e : Nat × Nat × MethodName => Cond.methodLink (q_own e.1) e.2.1 e.2.2) (List.mem_of_getElem? (i := 7) (l := q_LK3) rfl))
theorem l_13_164 : Cond.methodLink (q_own 13) 164 yX12_dusk ∈ q_TB := q_LKw3 _ (List.mem_map_of_mem (f := fun e : Nat × Nat × MethodName => Cond.methodLink (q_own e.1) e.2.1 e.2.2) (List.mem_of_getElem? (i := 8) (l := q_LK3) rfl))
theorem l_12_430 : Cond.methodLink (q_own 12) 430 yX12_isDusk ∈ q_TB := q_LKw3 _ (List.mem_map_of_mem (f := fun e : Nat × Nat × MethodName => Cond.methodLink (q_own e.1) e.2.1 e.2.2) (List.mem_of_getElem? (i := 9) (l := q_LK3) rfl))
theorem l_13_168 : Cond.methodLink (q_own 13) 168 yX12_would ∈ q_TB := q_LKw3 _ (List.mem_map_of_mem (f := fun e : Nat × Nat × MethodName => Cond.methodLink (q_own e.1) e.2.1 e.2.2) (List.mem_of_getElem? (i := 10) (l := q_LK3) rfl))
theorem l_13_171 : Cond.methodLink (q_own 13) 171 yX12_grows ∈ q_TB := q_LKw3 _ (List.mem_map_of_mem (f := fun e : Nat × Nat × MethodName => Cond.methodLink (q_own e.1) e.2.1 e.2.2) (List.mem_of_getElem? (i := 11) (l := q_LK3) rfl))
theorem l_13_174 : Cond.methodLink (q_own 13) 174 yX12_best ∈ q_TB := q_LKw3 _ (List.mem_map_of_mem (f := fun e : Nat × Nat × MethodName => Cond.methodLink (q_own e.1) e.2.1 e.2.2) (List.mem_of_getElem? (i := 12) (l := q_LK3) rfl))
theorem l_12_433 : Cond.methodLink (q_own 12) 433 yX12_canEnd ∈ q_TB := q_LKw3 _ (List.mem_map_of_mem (f := fun e : Nat × Nat × MethodName => Cond.methodLink (q_own e.1) e.2.1 e.2.2) (List.mem_of_getElem? (i := 13) (l := q_LK3) rfl))
theorem l_13_178 : Cond.methodLink (q_own 13) 178 yX12_soon ∈ q_TB := q_LKw3 _ (List.mem_map_of_mem (f := fun e : Nat × Nat × MethodName => Cond.methodLink (q_own e.1) e.2.1 e.2.2) (List.mem_of_getElem? (i := 14) (l := q_LK3) rfl))
theorem l_12_439 : Cond.methodLink (q_own 12) 439 yX12_paysAll ∈ q_TB := q_LKw3 _ (List.mem_map_of_mem (f := fun e : Nat × Nat × MethodName => Cond.methodLink (q_own e.1) e.2.1 e.2.2) (List.mem_of_getElem? (i := 15) (l := q_LK3) rfl))
theorem l_12_436 : Cond.methodLink (q_own 12) 436 yX12_isAhead ∈ q_TB := q_LKw3 _ (List.mem_map_of_mem (f := fun e : Nat × Nat × MethodName => Cond.methodLink (q_own e.1) e.2.1 e.2.2) (List.mem_of_getElem? (i := 16) (l := q_LK3) rfl))
theorem l_13_181 : Cond.methodLink (q_own 13) 181 yX12_left ∈ q_TB := q_LKw3 _ (List.mem_map_of_mem (f := fun e : Nat × Nat × MethodName => Cond.methodLink (q_own e.1) e.2.1 e.2.2) (List.mem_of_getElem? (i := 17) (l := q_LK3) rfl))
theorem l_13_184 : Cond.methodLink (q_own 13) 184 yX12_delay ∈ q_TB := q_LKw3 _ (List.mem_map_of_mem (f := fun e : Nat × Nat × MethodName => Cond.methodLink (q_own e.1) e.2.1 e.2.2) (List.mem_of_getElem? (i := 18) (l := q_LK3) rfl))
theorem l_13_188 : Cond.methodLink (q_own 13) 188 yX12_next ∈ q_TB := q_LKw3 _ (List.mem_map_of_mem (f := fun e : Nat × Nat × MethodName => Cond.methodLink (q_own e.1) e.2.1 e.2.2) (List.mem_of_getElem? (i := 19) (l := q_LK3) rfl))
theorem l_13_192 : Cond.methodLink (q_own 13) 192 yX12_matched ∈ q_TB := q_LKw3 _ (List.mem_map_of_mem (f := fun e : Nat × Nat × MethodName => Cond.methodLink (q_own e.1) e.2.1 e.2.2) (List.mem_of_getElem? (i := 20) (l := q_LK3) rfl))
theorem l_12_454 : Cond.methodLink (q_own 12) 454 yX12_findWeddings ∈ q_TB := q_LKw3 _ (List.mem_map_of_mem (f := fun e : Nat × Nat × MethodName => Cond.methodLink (q_own e.1) e.2.1 e.2.2) (List.mem_of_getElem? (i := 21) (l := q_LK3) rfl))
theorem l_12_448 : Cond.methodLink (q_own 12) 448 yX12_mostWith ∈ q_TB := q_LKw3 _ (List.mem_map_of_mem (f := fun e : Nat × Nat × MethodName => Cond.methodLink (q_own e.1) e.2.1 e.2.2) (List.mem_of_getElem? (i := 22) (l := q_LK3) rfl))
theorem l_12_445 : Cond.methodLink (q_own 12) 445 yX12_finds ∈ q_TB := q_LKw3 _ (List.mem_map_of_mem (f := fun e : Nat × Nat × MethodName => Cond.methodLink (q_own e.1) e.2.1 e.2.2) (List.mem_of_getElem? (i := 23) (l := q_LK3) rfl))
theorem l_12_442 : Cond.methodLink (q_own 12) 442 yX12_canWed ∈ q_TB := q_LKw3 _ (List.mem_map_of_mem (f := fun e : Nat × Nat × MethodName => Cond.methodLink (q_own e.1) e.2.1 e.2.2) (List.mem_of_getElem? (i := 24) (l := q_LK3) rfl))
theorem l_12_451 : Cond.methodLink (q_own 12) 451 yX12_isTaken ∈ q_TB := q_LKw3 _ (List.mem_map_of_mem (f := fun e : Nat × Nat × MethodName => Cond.methodLink (q_own e.1) e.2.1 e.2.2) (List.mem_of_getElem? (i := 25) (l := q_LK3) rfl))
theorem l_13_195 : Cond.methodLink (q_own 13) 195 yX12_weds ∈ q_TB := q_LKw3 _ (List.mem_map_of_mem (f := fun e : Nat × Nat × MethodName => Cond.methodLink (q_own e.1) e.2.1 e.2.2) (List.mem_of_getElem? (i := 26) (l := q_LK3) rfl))
theorem l_12_457 : Cond.methodLink (q_own 12) 457 yX12_isWedding_ ∈ q_TB := q_LKw3 _ (List.mem_map_of_mem (f := fun e : Nat × Nat × MethodName => Cond.methodLink (q_own e.1) e.2.1 e.2.2) (List.mem_of_getElem? (i := 27) (l := q_LK3) rfl))
theorem l_13_198 : Cond.methodLink (q_own 13) 198 yX12_choices ∈ q_TB := q_LKw3 _ (List.mem_map_of_mem (f := fun e : Nat × Nat × MethodName => Cond.methodLink (q_own e.1) e.2.1 e.2.2) (List.mem_of_getElem? (i := 28) (l := q_LK3) rfl))
theorem l_13_201 : Cond.methodLink (q_own 13) 201 yX12_sees ∈ q_TB := q_LKw3 _ (List.mem_map_of_mem (f := fun e : Nat × Nat × MethodName => Cond.methodLink (q_own e.1) e.2.1 e.2.2) (List.mem_of_getElem? (i := 29) (l := q_LK3) rfl))
theorem l_12_459 : Cond.methodLink (q_own 12) 459 yX12_seesFrom ∈ q_TB := q_LKw3 _ (List.mem_map_of_mem (f := fun e : Nat × Nat × MethodName => Cond.methodLink (q_own e.1) e.2.1 e.2.2) (List.mem_of_getElem? (i := 30) (l := q_LK3) rfl))
theorem l_13_204 : Cond.methodLink (q_own 13) 204 yX12_eyes ∈ q_TB := q_LKw3 _ (List.mem_map_of_mem (f := fun e : Nat × Nat × MethodName => Cond.methodLink (q_own e.1) e.2.1 e.2.2) (List.mem_of_getElem? (i := 31) (l := q_LK3) rfl))
theorem l_13_207 : Cond.methodLink (q_own 13) 207 yX12_chairs ∈ q_TB := q_LKw3 _ (List.mem_map_of_mem (f := fun e : Nat × Nat × MethodName => Cond.methodLink (q_own e.1) e.2.1 e.2.2) (List.mem_of_getElem? (i := 32) (l := q_LK3) rfl))
theorem l_12_465 : Cond.methodLink (q_own 12) 465 yX12_chairsOn ∈ q_TB := q_LKw3 _ (List.mem_map_of_mem (f := fun e : Nat × Nat × MethodName => Cond.methodLink (q_own e.1) e.2.1 e.2.2) (List.mem_of_getElem? (i := 33) (l := q_LK3) rfl))
theorem l_13_210 : Cond.methodLink (q_own 13) 210 yX12_gets ∈ q_TB := q_LKw3 _ (List.mem_map_of_mem (f := fun e : Nat × Nat × MethodName => Cond.methodLink (q_own e.1) e.2.1 e.2.2) (List.mem_of_getElem? (i := 34) (l := q_LK3) rfl))
theorem l_12_470 : Cond.methodLink (q_own 12) 470 yX12_levelled ∈ q_TB := q_LKw3 _ (List.mem_map_of_mem (f := fun e : Nat × Nat × MethodName => Cond.methodLink (q_own e.1) e.2.1 e.2.2) (List.mem_of_getElem? (i := 35) (l := q_LK3) rfl))
theorem l_13_213 : Cond.methodLink (q_own 13) 213 yX12_owes ∈ q_TB := q_LKw3 _ (List.mem_map_of_mem (f := fun e : Nat × Nat × MethodName => Cond.methodLink (q_own e.1) e.2.1 e.2.2) (List.mem_of_getElem? (i := 36) (l := q_LK3) rfl))
theorem l_13_216 : Cond.methodLink (q_own 13) 216 yX12_net ∈ q_TB := q_LKw3 _ (List.mem_map_of_mem (f := fun e : Nat × Nat × MethodName => Cond.methodLink (q_own e.1) e.2.1 e.2.2) (List.mem_of_getElem? (i := 37) (l := q_LK3) rfl))
theorem l_12_473 : Cond.methodLink (q_own 12) 473 yX12_netOf ∈ q_TB := q_LKw3 _ (List.mem_map_of_mem (f := fun e : Nat × Nat × MethodName => Cond.methodLink (q_own e.1) e.2.1 e.2.2) (List.mem_of_getElem? (i := 38) (l := q_LK3) rfl))
theorem l_13_219 : Cond.methodLink (q_own 13) 219 yX12_struck ∈ q_TB := q_LKw3 _ (List.mem_map_of_mem (f := fun e : Nat × Nat × MethodName => Cond.methodLink (q_own e.1) e.2.1 e.2.2) (List.mem_of_getElem? (i := 39) (l := q_LK3) rfl))
theorem l_13_223 : Cond.methodLink (q_own 13) 223 yX12_moved ∈ q_TB := q_LKw3 _ (List.mem_map_of_mem (f := fun e : Nat × Nat × MethodName => Cond.methodLink (q_own e.1) e.2.1 e.2.2) (List.mem_of_getElem? (i := 40) (l := q_LK3) rfl))
theorem l_12_476 : Cond.methodLink (q_own 12) 476 yX12_movedNow ∈ q_TB := q_LKw3 _ (List.mem_map_of_mem (f := fun e : Nat × Nat × MethodName => Cond.methodLink (q_own e.1) e.2.1 e.2.2) (List.mem_of_getElem? (i := 41) (l := q_LK3) rfl))
theorem l_13_226 : Cond.methodLink (q_own 13) 226 yX12_look ∈ q_TB := q_LKw3 _ (List.mem_map_of_mem (f := fun e : Nat × Nat × MethodName => Cond.methodLink (q_own e.1) e.2.1 e.2.2) (List.mem_of_getElem? (i := 42) (l := q_LK3) rfl))
theorem l_12_479 : Cond.methodLink (q_own 12) 479 yX12_isSeen ∈ q_TB := q_LKw3 _ (List.mem_map_of_mem (f := fun e : Nat × Nat × MethodName => Cond.methodLink (q_own e.1) e.2.1 e.2.2) (List.mem_of_getElem? (i := 43) (l := q_LK3) rfl))
theorem l_12_482 : Cond.methodLink (q_own 12) 482 yX12_worstAt ∈ q_TB := q_LKw3 _ (List.mem_map_of_mem (f := fun e : Nat × Nat × MethodName => Cond.methodLink (q_own e.1) e.2.1 e.2.2) (List.mem_of_getElem? (i := 44) (l := q_LK3) rfl))
theorem l_13_230 : Cond.methodLink (q_own 13) 230 yX12_settle ∈ q_TB := q_LKw3 _ (List.mem_map_of_mem (f := fun e : Nat × Nat × MethodName => Cond.methodLink (q_own e.1) e.2.1 e.2.2) (List.mem_of_getElem? (i := 45) (l := q_LK3) rfl))
theorem l_12_495 : Cond.methodLink (q_own 12) 495 yX12_isSettled ∈ q_TB := q_LKw3 _ (List.mem_map_of_mem (f := fun e : Nat × Nat × MethodName => Cond.methodLink (q_own e.1) e.2.1 e.2.2) (List.mem_of_getElem? (i := 46) (l := q_LK3) rfl))
theorem l_12_489 : Cond.methodLink (q_own 12) 489 yX12_zero ∈ q_TB := q_LKw3 _ (List.mem_map_of_mem (f := fun e : Nat × Nat × MethodName => Cond.methodLink (q_own e.1) e.2.1 e.2.2) (List.mem_of_getElem? (i := 47) (l := q_LK3) rfl))
theorem l_12_485 : Cond.methodLink (q_own 12) 485 yX12_losesOf ∈ q_TB := q_LKw3 _ (List.mem_map_of_mem (f := fun e : Nat × Nat × MethodName => Cond.methodLink (q_own e.1) e.2.1 e.2.2) (List.mem_of_getElem? (i := 48) (l := q_LK3) rfl))
theorem l_12_492 : Cond.methodLink (q_own 12) 492 yX12_waits ∈ q_TB := q_LKw3 _ (List.mem_map_of_mem (f := fun e : Nat × Nat × MethodName => Cond.methodLink (q_own e.1) e.2.1 e.2.2) (List.mem_of_getElem? (i := 49) (l := q_LK3) rfl))
theorem l_12_498 : Cond.methodLink (q_own 12) 498 yX12_least ∈ q_TB := q_LKw3 _ (List.mem_map_of_mem (f := fun e : Nat × Nat × MethodName => Cond.methodLink (q_own e.1) e.2.1 e.2.2) (List.mem_of_getElem? (i := 50) (l := q_LK3) rfl))
theorem l_13_233 : Cond.methodLink (q_own 13) 233 yX12_now ∈ q_TB := q_LKw3 _ (List.mem_map_of_mem (f := fun e : Nat × Nat × MethodName => Cond.methodLink (q_own e.1) e.2.1 e.2.2) (List.mem_of_getElem? (i := 51) (l := q_LK3) rfl))
theorem l_13_236 : Cond.methodLink (q_own 13) 236 yX12_bids ∈ q_TB := q_LKw3 _ (List.mem_map_of_mem (f := fun e : Nat × Nat × MethodName => Cond.methodLink (q_own e.1) e.2.1 e.2.2) (List.mem_of_getElem? (i := 52) (l := q_LK3) rfl))
theorem l_12_504 : Cond.methodLink (q_own 12) 504 yX12_isBest ∈ q_TB := q_LKw3 _ (List.mem_map_of_mem (f := fun e : Nat × Nat × MethodName => Cond.methodLink (q_own e.1) e.2.1 e.2.2) (List.mem_of_getElem? (i := 53) (l := q_LK3) rfl))
theorem l_12_501 : Cond.methodLink (q_own 12) 501 yX12_hasOf ∈ q_TB := q_LKw3 _ (List.mem_map_of_mem (f := fun e : Nat × Nat × MethodName => Cond.methodLink (q_own e.1) e.2.1 e.2.2) (List.mem_of_getElem? (i := 54) (l := q_LK3) rfl))
theorem l_13_239 : Cond.methodLink (q_own 13) 239 yX12_has ∈ q_TB := q_LKw3 _ (List.mem_map_of_mem (f := fun e : Nat × Nat × MethodName => Cond.methodLink (q_own e.1) e.2.1 e.2.2) (List.mem_of_getElem? (i := 55) (l := q_LK3) rfl))
theorem l_13_243 : Cond.methodLink (q_own 13) 243 yX12_decade ∈ q_TB := q_LKw3 _ (List.mem_map_of_mem (f := fun e : Nat × Nat × MethodName => Cond.methodLink (q_own e.1) e.2.1 e.2.2) (List.mem_of_getElem? (i := 56) (l := q_LK3) rfl))
theorem l_12_517 : Cond.methodLink (q_own 12) 517 yX12_goesOn ∈ q_TB := q_LKw3 _ (List.mem_map_of_mem (f := fun e : Nat × Nat × MethodName => Cond.methodLink (q_own e.1) e.2.1 e.2.2) (List.mem_of_getElem? (i := 57) (l := q_LK3) rfl))
theorem l_12_514 : Cond.methodLink (q_own 12) 514 yX12_draws ∈ q_TB := q_LKw3 _ (List.mem_map_of_mem (f := fun e : Nat × Nat × MethodName => Cond.methodLink (q_own e.1) e.2.1 e.2.2) (List.mem_of_getElem? (i := 58) (l := q_LK3) rfl))
theorem l_12_520 : Cond.methodLink (q_own 12) 520 yX12_spentIn ∈ q_TB := q_LKw3 _ (List.mem_map_of_mem (f := fun e : Nat × Nat × MethodName => Cond.methodLink (q_own e.1) e.2.1 e.2.2) (List.mem_of_getElem? (i := 59) (l := q_LK3) rfl))
theorem l_13_246 : Cond.methodLink (q_own 13) 246 yX12_span ∈ q_TB := q_LKw3 _ (List.mem_map_of_mem (f := fun e : Nat × Nat × MethodName => Cond.methodLink (q_own e.1) e.2.1 e.2.2) (List.mem_of_getElem? (i := 60) (l := q_LK3) rfl))
theorem l_13_250 : Cond.methodLink (q_own 13) 250 yX12_greatest ∈ q_TB := q_LKw3 _ (List.mem_map_of_mem (f := fun e : Nat × Nat × MethodName => Cond.methodLink (q_own e.1) e.2.1 e.2.2) (List.mem_of_getElem? (i := 61) (l := q_LK3) rfl))
theorem l_13_253 : Cond.methodLink (q_own 13) 253 yX12_brightest ∈ q_TB := q_LKw3 _ (List.mem_map_of_mem (f := fun e : Nat × Nat × MethodName => Cond.methodLink (q_own e.1) e.2.1 e.2.2) (List.mem_of_getElem? (i := 62) (l := q_LK3) rfl))
theorem l_13_257 : Cond.methodLink (q_own 13) 257 yX12_image ∈ q_TB := q_LKw3 _ (List.mem_map_of_mem (f := fun e : Nat × Nat × MethodName => Cond.methodLink (q_own e.1) e.2.1 e.2.2) (List.mem_of_getElem? (i := 63) (l := q_LK3) rfl))
theorem l_12_528 : Cond.methodLink (q_own 12) 528 yX12_keepsAll ∈ q_TB := q_LKw3 _ (List.mem_map_of_mem (f := fun e : Nat × Nat × MethodName => Cond.methodLink (q_own e.1) e.2.1 e.2.2) (List.mem_of_getElem? (i := 64) (l := q_LK3) rfl))
theorem l_12_524 : Cond.methodLink (q_own 12) 524 yX12_keepsRow ∈ q_TB := q_LKw3 _ (List.mem_map_of_mem (f := fun e : Nat × Nat × MethodName => Cond.methodLink (q_own e.1) e.2.1 e.2.2) (List.mem_of_getElem? (i := 65) (l := q_LK3) rfl))
theorem l_13_261 : Cond.methodLink (q_own 13) 261 yX12_restore ∈ q_TB := q_LKw3 _ (List.mem_map_of_mem (f := fun e : Nat × Nat × MethodName => Cond.methodLink (q_own e.1) e.2.1 e.2.2) (List.mem_of_getElem? (i := 66) (l := q_LK3) rfl))
theorem l_13_265 : Cond.methodLink (q_own 13) 265 yX12_status ∈ q_TB := q_LKw3 _ (List.mem_map_of_mem (f := fun e : Nat × Nat × MethodName => Cond.methodLink (q_own e.1) e.2.1 e.2.2) (List.mem_of_getElem? (i := 67) (l := q_LK3) rfl))
theorem l_13_269 : Cond.methodLink (q_own 13) 269 yX12_count ∈ q_TB := q_LKw3 _ (List.mem_map_of_mem (f := fun e : Nat × Nat × MethodName => Cond.methodLink (q_own e.1) e.2.1 e.2.2) (List.mem_of_getElem? (i := 68) (l := q_LK3) rfl))
