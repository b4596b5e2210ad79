set_option maxRecDepth 100000 in
theorem qv_X7_fits : qvm md_X7_fits pc_X7_fits pc_X7_fits kk_X7_fits = true := by decide +kernel
set_option maxRecDepth 100000 in
theorem qv_X7_odds : qvm md_X7_odds pc_X7_odds pc_X7_odds kk_X7_odds = true := by decide +kernel
set_option maxRecDepth 100000 in
theorem qv_X7_mean : qvm md_X7_mean pc_X7_mean pc_X7_mean kk_X7_mean = true := by decide +kernel
set_option maxRecDepth 100000 in
theorem qv_X7_event : qvm md_X7_event pc_X7_event pc_X7_event kk_X7_event = true := by decide +kernel
set_option maxRecDepth 100000 in
theorem qv_X7_after : qvm md_X7_after pc_X7_after pc_X7_after kk_X7_after = true := by decide +kernel
set_option maxRecDepth 100000 in
theorem qv_X7_book : qvm md_X7_book pc_X7_book pc_X7_book kk_X7_book = true := by decide +kernel
set_option maxRecDepth 100000 in
theorem qv_X7_looked : qvm md_X7_looked pc_X7_looked pc_X7_looked kk_X7_looked = true := by decide +kernel
set_option maxRecDepth 100000 in
theorem qv_X7_judge : qvm md_X7_judge pc_X7_judge pc_X7_judge kk_X7_judge = true := by decide +kernel
set_option maxRecDepth 100000 in
theorem qv_X7_image : qvm md_X7_image pc_X7_image pc_X7_image kk_X7_image = true := by decide +kernel
set_option maxRecDepth 100000 in
theorem qv_X7_undo : qvm md_X7_undo pc_X7_undo pc_X7_undo kk_X7_undo = true := by decide +kernel
set_option maxRecDepth 100000 in
theorem qv_X7_count : qvm md_X7_count pc_X7_count pc_X7_count kk_X7_count = true := by decide +kernel
set_option maxRecDepth 100000 in
theorem qv_X7_tape : qvm md_X7_tape pc_X7_tape pc_X7_tape kk_X7_tape = true := by decide +kernel
set_option maxRecDepth 100000 in
theorem qv_X7_item : qvm md_X7_item pc_X7_item pc_X7_item kk_X7_item = true := by decide +kernel
set_option maxRecDepth 100000 in
theorem qv_X7_peek : qvm md_X7_peek pc_X7_peek pc_X7_peek kk_X7_peek = true := by decide +kernel
set_option maxRecDepth 100000 in
theorem qv_X7_shift : qvm md_X7_shift pc_X7_shift pc_X7_shift kk_X7_shift = true := by decide +kernel
set_option maxRecDepth 100000 in
theorem qv_X7_isSide : qvm md_X7_isSide pc_X7_isSide pc_X7_isSide kk_X7_isSide = true := by decide +kernel
set_option maxRecDepth 100000 in
theorem qv_X7_isWorth : qvm md_X7_isWorth pc_X7_isWorth pc_X7_isWorth kk_X7_isWorth = true := by decide +kernel
set_option maxRecDepth 100000 in
theorem qv_X7_isOneOfTwo : qvm md_X7_isOneOfTwo pc_X7_isOneOfTwo pc_X7_isOneOfTwo kk_X7_isOneOfTwo = true := by decide +kernel
set_option maxRecDepth 100000 in
theorem qv_X7_isTape : qvm md_X7_isTape pc_X7_isTape pc_X7_isTape kk_X7_isTape = true := by decide +kernel
set_option maxRecDepth 100000 in
theorem qv_X7_waysOnly : qvm md_X7_waysOnly pc_X7_waysOnly pc_X7_waysOnly kk_X7_waysOnly = true := by decide +kernel
set_option maxRecDepth 100000 in
theorem qv_X7_squares : qvm md_X7_squares pc_X7_squares pc_X7_squares kk_X7_squares = true := by decide +kernel
set_option maxRecDepth 100000 in
theorem qv_X7_lowest : qvm md_X7_lowest pc_X7_lowest pc_X7_lowest kk_X7_lowest = true := by decide +kernel
set_option maxRecDepth 100000 in
theorem qv_X7_isSum : qvm md_X7_isSum pc_X7_isSum pc_X7_isSum kk_X7_isSum = true := by decide +kernel
set_option maxRecDepth 100000 in
theorem qv_X7_freshCuts : qvm md_X7_freshCuts pc_X7_freshCuts pc_X7_freshCuts kk_X7_freshCuts = true := by decide +kernel
set_option maxRecDepth 100000 in
theorem qv_X7_rewrite : qvm md_X7_rewrite pc_X7_rewrite pc_X7_rewrite kk_X7_rewrite = true := by decide +kernel
set_option maxRecDepth 100000 in
theorem qv_X7_tryWorth : qvm md_X7_tryWorth pc_X7_tryWorth pc_X7_tryWorth kk_X7_tryWorth = true := by decide +kernel
set_option maxRecDepth 100000 in
theorem qv_X7_tellUse : qvm md_X7_tellUse pc_X7_tellUse pc_X7_tellUse kk_X7_tellUse = true := by decide +kernel
set_option maxRecDepth 100000 in
theorem qv_X7_isEvent : qvm md_X7_isEvent pc_X7_isEvent pc_X7_isEvent kk_X7_isEvent = true := by decide +kernel
set_option maxRecDepth 100000 in
theorem qv_X7_doClauses : qvm md_X7_doClauses pc_X7_doClauses pc_X7_doClauses kk_X7_doClauses = true := by decide +kernel
set_option maxRecDepth 100000 in
theorem qv_X7_doClause : qvm md_X7_doClause pc_X7_doClause pc_X7_doClause kk_X7_doClause = true := by decide +kernel
set_option maxRecDepth 100000 in
theorem qv_X8_in : qvm md_X8_in pc_X8_in pc_X8_in kk_X8_in = true := by decide +kernel
set_option maxRecDepth 100000 in
theorem qv_X8_isPart : qvm md_X8_isPart pc_X8_isPart pc_X8_isPart kk_X8_isPart = true := by decide +kernel
set_option maxRecDepth 100000 in
theorem qv_X8_think : qvm md_X8_think pc_X8_think pc_X8_think kk_X8_think = true := by decide +kernel
set_option maxRecDepth 100000 in
theorem qv_X8_forget : qvm md_X8_forget pc_X8_forget pc_X8_forget kk_X8_forget = true := by decide +kernel
set_option maxRecDepth 100000 in
theorem qv_X8_plate : qvm md_X8_plate pc_X8_plate pc_X8_plate kk_X8_plate = true := by decide +kernel
set_option maxRecDepth 100000 in
theorem qv_X8_kerf : qvm md_X8_kerf pc_X8_kerf pc_X8_kerf kk_X8_kerf = true := by decide +kernel
set_option maxRecDepth 100000 in
theorem qv_X8_part : qvm md_X8_part pc_X8_part pc_X8_part kk_X8_part = true := by decide +kernel
set_option maxRecDepth 100000 in
theorem qv_X8_renew : qvm md_X8_renew pc_X8_renew pc_X8_renew kk_X8_renew = true := by decide +kernel
set_option maxRecDepth 100000 in
theorem qv_X8_turn : qvm md_X8_turn pc_X8_turn pc_X8_turn kk_X8_turn = true := by decide +kernel
set_option maxRecDepth 100000 in
theorem qv_X8_of : qvm md_X8_of pc_X8_of pc_X8_of kk_X8_of = true := by decide +kernel
set_option maxRecDepth 100000 in
theorem qv_X8_isSquare : qvm md_X8_isSquare pc_X8_isSquare pc_X8_isSquare kk_X8_isSquare = true := by decide +kernel
set_option maxRecDepth 100000 in
theorem qv_X8_defects : qvm md_X8_defects pc_X8_defects pc_X8_defects kk_X8_defects = true := by decide +kernel
set_option maxRecDepth 100000 in
theorem qv_X8_clearDefects : qvm md_X8_clearDefects pc_X8_clearDefects pc_X8_clearDefects kk_X8_clearDefects = true := by decide +kernel
set_option maxRecDepth 100000 in
theorem qv_X8_defect : qvm md_X8_defect pc_X8_defect pc_X8_defect kk_X8_defect = true := by decide +kernel
set_option maxRecDepth 100000 in
theorem qv_X8_mend : qvm md_X8_mend pc_X8_mend pc_X8_mend kk_X8_mend = true := by decide +kernel
set_option maxRecDepth 100000 in
theorem qv_X8_feed : qvm md_X8_feed pc_X8_feed pc_X8_feed kk_X8_feed = true := by decide +kernel
set_option maxRecDepth 100000 in
theorem qv_X8_isDigit : qvm md_X8_isDigit pc_X8_isDigit pc_X8_isDigit kk_X8_isDigit = true := by decide +kernel
set_option maxRecDepth 100000 in
theorem qv_X8_digit : qvm md_X8_digit pc_X8_digit pc_X8_digit kk_X8_digit = true := by decide +kernel
set_option maxRecDepth 100000 in
theorem qv_X8_isOne : qvm md_X8_isOne pc_X8_isOne pc_X8_isOne kk_X8_isOne = true := by decide +kernel
set_option maxRecDepth 100000 in
theorem qv_X8_faultOf : qvm md_X8_faultOf pc_X8_faultOf pc_X8_faultOf kk_X8_faultOf = true := by decide +kernel
set_option maxRecDepth 100000 in
theorem qv_X8_does : qvm md_X8_does pc_X8_does pc_X8_does kk_X8_does = true := by decide +kernel
set_option maxRecDepth 100000 in
theorem qv_X8_read : qvm md_X8_read pc_X8_read pc_X8_read kk_X8_read = true := by decide +kernel
set_option maxRecDepth 100000 in
theorem qv_X8_at : qvm md_X8_at pc_X8_at pc_X8_at kk_X8_at = true := by decide +kernel
set_option maxRecDepth 100000 in
theorem qv_X8_isPiece : qvm md_X8_isPiece pc_X8_isPiece pc_X8_isPiece kk_X8_isPiece = true := by decide +kernel
set_option maxRecDepth 100000 in
theorem qv_X8_isClear : qvm md_X8_isClear pc_X8_isClear pc_X8_isClear kk_X8_isClear = true := by decide +kernel
set_option maxRecDepth 100000 in
theorem qv_X8_fitsIn : qvm md_X8_fitsIn pc_X8_fitsIn pc_X8_fitsIn kk_X8_fitsIn = true := by decide +kernel
set_option maxRecDepth 100000 in
theorem qv_X8_plain : qvm md_X8_plain pc_X8_plain pc_X8_plain kk_X8_plain = true := by decide +kernel
set_option maxRecDepth 100000 in
theorem qv_X8_cutBy : qvm md_X8_cutBy pc_X8_cutBy pc_X8_cutBy kk_X8_cutBy = true := by decide +kernel
set_option maxRecDepth 100000 in
theorem qv_X8_measure : qvm md_X8_measure pc_X8_measure pc_X8_measure kk_X8_measure = true := by decide +kernel
set_option maxRecDepth 100000 in
theorem qv_X8_bestOfAll : qvm md_X8_bestOfAll pc_X8_bestOfAll pc_X8_bestOfAll kk_X8_bestOfAll = true := by decide +kernel
set_option maxRecDepth 100000 in
theorem qv_X8_best : qvm md_X8_best pc_X8_best pc_X8_best kk_X8_best = true := by decide +kernel
set_option maxRecDepth 100000 in
theorem qv_X8_is : qvm md_X8_is pc_X8_is pc_X8_is kk_X8_is = true := by decide +kernel
set_option maxRecDepth 100000 in
theorem qv_X8_cuts : qvm md_X8_cuts pc_X8_cuts pc_X8_cuts kk_X8_cuts = true := by decide +kernel
set_option maxRecDepth 100000 in
theorem qv_X8_partWorth : qvm md_X8_partWorth pc_X8_partWorth pc_X8_partWorth kk_X8_partWorth = true := by decide +kernel
set_option maxRecDepth 100000 in
theorem qv_X8_grow : qvm md_X8_grow pc_X8_grow pc_X8_grow kk_X8_grow = true := by decide +kernel
set_option maxRecDepth 100000 in
theorem qv_X8_usedOf : qvm md_X8_usedOf pc_X8_usedOf pc_X8_usedOf kk_X8_usedOf = true := by decide +kernel
