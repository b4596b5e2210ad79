set_option maxRecDepth 100000 in
theorem qv_X0_reckon : qvm md_X0_reckon pc_X0_reckon pc_X0_reckon kk_X0_reckon = true := by decide +kernel
set_option maxRecDepth 100000 in
theorem qv_X0_grow : qvm md_X0_grow pc_X0_grow pc_X0_grow kk_X0_grow = true := by decide +kernel
set_option maxRecDepth 100000 in
theorem qv_X0_settle : qvm md_X0_settle pc_X0_settle pc_X0_settle kk_X0_settle = true := by decide +kernel
set_option maxRecDepth 100000 in
theorem qv_X0_name : qvm md_X0_name pc_X0_name pc_X0_name kk_X0_name = true := by decide +kernel
set_option maxRecDepth 100000 in
theorem qv_X0_write : qvm md_X0_write pc_X0_write pc_X0_write kk_X0_write = true := by decide +kernel
set_option maxRecDepth 100000 in
theorem qv_X0_fact : qvm md_X0_fact pc_X0_fact pc_X0_fact kk_X0_fact = true := by decide +kernel
set_option maxRecDepth 100000 in
theorem qv_X0_timesUsed : qvm md_X0_timesUsed pc_X0_timesUsed pc_X0_timesUsed kk_X0_timesUsed = true := by decide +kernel
set_option maxRecDepth 100000 in
theorem qv_X0_wasted : qvm md_X0_wasted pc_X0_wasted pc_X0_wasted kk_X0_wasted = true := by decide +kernel
set_option maxRecDepth 100000 in
theorem qv_X0_partOn : qvm md_X0_partOn pc_X0_partOn pc_X0_partOn kk_X0_partOn = true := by decide +kernel
set_option maxRecDepth 100000 in
theorem qv_X0_telling : qvm md_X0_telling pc_X0_telling pc_X0_telling kk_X0_telling = true := by decide +kernel
set_option maxRecDepth 100000 in
theorem qv_X0_firstOtherwise : qvm md_X0_firstOtherwise pc_X0_firstOtherwise pc_X0_firstOtherwise kk_X0_firstOtherwise = true := by decide +kernel
set_option maxRecDepth 100000 in
theorem qv_X1_append : qvm md_X1_append pc_X1_append pc_X1_append kk_X1_append = true := by decide +kernel
set_option maxRecDepth 100000 in
theorem qv_X1_first : qvm md_X1_first pc_X1_first pc_X1_first kk_X1_first = true := by decide +kernel
set_option maxRecDepth 100000 in
theorem qv_X1_second : qvm md_X1_second pc_X1_second pc_X1_second kk_X1_second = true := by decide +kernel
set_option maxRecDepth 100000 in
theorem qv_X1_copyFrom : qvm md_X1_copyFrom pc_X1_copyFrom pc_X1_copyFrom kk_X1_copyFrom = true := by decide +kernel
set_option maxRecDepth 100000 in
theorem qv_X2_copyFrom : qvm md_X2_copyFrom pc_X2_copyFrom pc_X2_copyFrom kk_X2_copyFrom = true := by decide +kernel
set_option maxRecDepth 100000 in
theorem qv_X2_has : qvm md_X2_has pc_X2_has pc_X2_has kk_X2_has = true := by decide +kernel
set_option maxRecDepth 100000 in
theorem qv_X2_fact : qvm md_X2_fact pc_X2_fact pc_X2_fact kk_X2_fact = true := by decide +kernel
set_option maxRecDepth 100000 in
theorem qv_X2_write : qvm md_X2_write pc_X2_write pc_X2_write kk_X2_write = true := by decide +kernel
set_option maxRecDepth 100000 in
theorem qv_X2_hasSquare : qvm md_X2_hasSquare pc_X2_hasSquare pc_X2_hasSquare kk_X2_hasSquare = true := by decide +kernel
set_option maxRecDepth 100000 in
theorem qv_X2_hasPiece : qvm md_X2_hasPiece pc_X2_hasPiece pc_X2_hasPiece kk_X2_hasPiece = true := by decide +kernel
set_option maxRecDepth 100000 in
theorem qv_X2_isSound : qvm md_X2_isSound pc_X2_isSound pc_X2_isSound kk_X2_isSound = true := by decide +kernel
set_option maxRecDepth 100000 in
theorem qv_X2_isOfSize : qvm md_X2_isOfSize pc_X2_isOfSize pc_X2_isOfSize kk_X2_isOfSize = true := by decide +kernel
set_option maxRecDepth 100000 in
theorem qv_X2_leastPart : qvm md_X2_leastPart pc_X2_leastPart pc_X2_leastPart kk_X2_leastPart = true := by decide +kernel
set_option maxRecDepth 100000 in
theorem qv_X2_greatestWorth : qvm md_X2_greatestWorth pc_X2_greatestWorth pc_X2_greatestWorth kk_X2_greatestWorth = true := by decide +kernel
set_option maxRecDepth 100000 in
theorem qv_X2_lengths : qvm md_X2_lengths pc_X2_lengths pc_X2_lengths kk_X2_lengths = true := by decide +kernel
set_option maxRecDepth 100000 in
theorem qv_X2_befall : qvm md_X2_befall pc_X2_befall pc_X2_befall kk_X2_befall = true := by decide +kernel
set_option maxRecDepth 100000 in
theorem qv_X3_copyFrom : qvm md_X3_copyFrom pc_X3_copyFrom pc_X3_copyFrom kk_X3_copyFrom = true := by decide +kernel
set_option maxRecDepth 100000 in
theorem qv_X4_become : qvm md_X4_become pc_X4_become pc_X4_become kk_X4_become = true := by decide +kernel
set_option maxRecDepth 100000 in
theorem qv_X4_hasPlace : qvm md_X4_hasPlace pc_X4_hasPlace pc_X4_hasPlace kk_X4_hasPlace = true := by decide +kernel
set_option maxRecDepth 100000 in
theorem qv_X4_hasRange : qvm md_X4_hasRange pc_X4_hasRange pc_X4_hasRange kk_X4_hasRange = true := by decide +kernel
set_option maxRecDepth 100000 in
theorem qv_X4_asItem : qvm md_X4_asItem pc_X4_asItem pc_X4_asItem kk_X4_asItem = true := by decide +kernel
set_option maxRecDepth 100000 in
theorem qv_X5_append : qvm md_X5_append pc_X5_append pc_X5_append kk_X5_append = true := by decide +kernel
set_option maxRecDepth 100000 in
theorem qv_X5_sign : qvm md_X5_sign pc_X5_sign pc_X5_sign kk_X5_sign = true := by decide +kernel
set_option maxRecDepth 100000 in
theorem qv_X5_isDigit : qvm md_X5_isDigit pc_X5_isDigit pc_X5_isDigit kk_X5_isDigit = true := by decide +kernel
set_option maxRecDepth 100000 in
theorem qv_X5_digit : qvm md_X5_digit pc_X5_digit pc_X5_digit kk_X5_digit = true := by decide +kernel
set_option maxRecDepth 100000 in
theorem qv_X5_worth : qvm md_X5_worth pc_X5_worth pc_X5_worth kk_X5_worth = true := by decide +kernel
set_option maxRecDepth 100000 in
theorem qv_X5_digitsDue : qvm md_X5_digitsDue pc_X5_digitsDue pc_X5_digitsDue kk_X5_digitsDue = true := by decide +kernel
set_option maxRecDepth 100000 in
theorem qv_X5_firstFault : qvm md_X5_firstFault pc_X5_firstFault pc_X5_firstFault kk_X5_firstFault = true := by decide +kernel
set_option maxRecDepth 100000 in
theorem qv_X5_clauseBehind : qvm md_X5_clauseBehind pc_X5_clauseBehind pc_X5_clauseBehind kk_X5_clauseBehind = true := by decide +kernel
set_option maxRecDepth 100000 in
theorem qv_X6_at : qvm md_X6_at pc_X6_at pc_X6_at kk_X6_at = true := by decide +kernel
set_option maxRecDepth 100000 in
theorem qv_X6_put : qvm md_X6_put pc_X6_put pc_X6_put kk_X6_put = true := by decide +kernel
set_option maxRecDepth 100000 in
theorem qv_X6_ofPlate : qvm md_X6_ofPlate pc_X6_ofPlate pc_X6_ofPlate kk_X6_ofPlate = true := by decide +kernel
set_option maxRecDepth 100000 in
theorem qv_X6_layParts : qvm md_X6_layParts pc_X6_layParts pc_X6_layParts kk_X6_layParts = true := by decide +kernel
set_option maxRecDepth 100000 in
theorem qv_X6_layPartsOfSize : qvm md_X6_layPartsOfSize pc_X6_layPartsOfSize pc_X6_layPartsOfSize kk_X6_layPartsOfSize = true := by decide +kernel
set_option maxRecDepth 100000 in
theorem qv_X6_cutAll : qvm md_X6_cutAll pc_X6_cutAll pc_X6_cutAll kk_X6_cutAll = true := by decide +kernel
set_option maxRecDepth 100000 in
theorem qv_X6_cutAllOfSize : qvm md_X6_cutAllOfSize pc_X6_cutAllOfSize pc_X6_cutAllOfSize kk_X6_cutAllOfSize = true := by decide +kernel
set_option maxRecDepth 100000 in
theorem qv_X6_cutOrNot : qvm md_X6_cutOrNot pc_X6_cutOrNot pc_X6_cutOrNot kk_X6_cutOrNot = true := by decide +kernel
set_option maxRecDepth 100000 in
theorem qv_X6_together : qvm md_X6_together pc_X6_together pc_X6_together kk_X6_together = true := by decide +kernel
set_option maxRecDepth 100000 in
theorem qv_X6_leastCut : qvm md_X6_leastCut pc_X6_leastCut pc_X6_leastCut kk_X6_leastCut = true := by decide +kernel
set_option maxRecDepth 100000 in
theorem qv_X7_plate : qvm md_X7_plate pc_X7_plate pc_X7_plate kk_X7_plate = true := by decide +kernel
set_option maxRecDepth 100000 in
theorem qv_X7_kerf : qvm md_X7_kerf pc_X7_kerf pc_X7_kerf kk_X7_kerf = true := by decide +kernel
set_option maxRecDepth 100000 in
theorem qv_X7_part : qvm md_X7_part pc_X7_part pc_X7_part kk_X7_part = true := by decide +kernel
set_option maxRecDepth 100000 in
theorem qv_X7_renew : qvm md_X7_renew pc_X7_renew pc_X7_renew kk_X7_renew = true := by decide +kernel
set_option maxRecDepth 100000 in
theorem qv_X7_turn : qvm md_X7_turn pc_X7_turn pc_X7_turn kk_X7_turn = true := by decide +kernel
set_option maxRecDepth 100000 in
theorem qv_X7_of : qvm md_X7_of pc_X7_of pc_X7_of kk_X7_of = true := by decide +kernel
set_option maxRecDepth 100000 in
theorem qv_X7_defect : qvm md_X7_defect pc_X7_defect pc_X7_defect kk_X7_defect = true := by decide +kernel
set_option maxRecDepth 100000 in
theorem qv_X7_mend : qvm md_X7_mend pc_X7_mend pc_X7_mend kk_X7_mend = true := by decide +kernel
set_option maxRecDepth 100000 in
theorem qv_X7_feed : qvm md_X7_feed pc_X7_feed pc_X7_feed kk_X7_feed = true := by decide +kernel
set_option maxRecDepth 100000 in
theorem qv_X7_read : qvm md_X7_read pc_X7_read pc_X7_read kk_X7_read = true := by decide +kernel
set_option maxRecDepth 100000 in
theorem qv_X7_best : qvm md_X7_best pc_X7_best pc_X7_best kk_X7_best = true := by decide +kernel
set_option maxRecDepth 100000 in
theorem qv_X7_is : qvm md_X7_is pc_X7_is pc_X7_is kk_X7_is = true := by decide +kernel
set_option maxRecDepth 100000 in
theorem qv_X7_told : qvm md_X7_told pc_X7_told pc_X7_told kk_X7_told = true := by decide +kernel
set_option maxRecDepth 100000 in
theorem qv_X7_node : qvm md_X7_node pc_X7_node pc_X7_node kk_X7_node = true := by decide +kernel
set_option maxRecDepth 100000 in
theorem qv_X7_picture : qvm md_X7_picture pc_X7_picture pc_X7_picture kk_X7_picture = true := by decide +kernel
set_option maxRecDepth 100000 in
theorem qv_X7_staged : qvm md_X7_staged pc_X7_staged pc_X7_staged kk_X7_staged = true := by decide +kernel
set_option maxRecDepth 100000 in
theorem qv_X7_sizes : qvm md_X7_sizes pc_X7_sizes pc_X7_sizes kk_X7_sizes = true := by decide +kernel
set_option maxRecDepth 100000 in
theorem qv_X7_more : qvm md_X7_more pc_X7_more pc_X7_more kk_X7_more = true := by decide +kernel
set_option maxRecDepth 100000 in
theorem qv_X7_bound : qvm md_X7_bound pc_X7_bound pc_X7_bound kk_X7_bound = true := by decide +kernel
set_option maxRecDepth 100000 in
theorem qv_X7_see : qvm md_X7_see pc_X7_see pc_X7_see kk_X7_see = true := by decide +kernel
