set_option maxRecDepth 100000 in
theorem qv_X8_parts : qvm md_X8_parts pc_X8_parts pc_X8_parts kk_X8_parts = true := by decide +kernel
set_option maxRecDepth 100000 in
theorem qv_X8_cutOnes : qvm md_X8_cutOnes pc_X8_cutOnes pc_X8_cutOnes kk_X8_cutOnes = true := by decide +kernel
set_option maxRecDepth 100000 in
theorem qv_X8_wasted : qvm md_X8_wasted pc_X8_wasted pc_X8_wasted kk_X8_wasted = true := by decide +kernel
set_option maxRecDepth 100000 in
theorem qv_X8_deep : qvm md_X8_deep pc_X8_deep pc_X8_deep kk_X8_deep = true := by decide +kernel
set_option maxRecDepth 100000 in
theorem qv_X8_told : qvm md_X8_told pc_X8_told pc_X8_told kk_X8_told = true := by decide +kernel
set_option maxRecDepth 100000 in
theorem qv_X8_node : qvm md_X8_node pc_X8_node pc_X8_node kk_X8_node = true := by decide +kernel
set_option maxRecDepth 100000 in
theorem qv_X8_picture : qvm md_X8_picture pc_X8_picture pc_X8_picture kk_X8_picture = true := by decide +kernel
set_option maxRecDepth 100000 in
theorem qv_X8_stage : qvm md_X8_stage pc_X8_stage pc_X8_stage kk_X8_stage = true := by decide +kernel
set_option maxRecDepth 100000 in
theorem qv_X8_staged : qvm md_X8_staged pc_X8_staged pc_X8_staged kk_X8_staged = true := by decide +kernel
set_option maxRecDepth 100000 in
theorem qv_X8_sizes : qvm md_X8_sizes pc_X8_sizes pc_X8_sizes kk_X8_sizes = true := by decide +kernel
set_option maxRecDepth 100000 in
theorem qv_X8_more : qvm md_X8_more pc_X8_more pc_X8_more kk_X8_more = true := by decide +kernel
set_option maxRecDepth 100000 in
theorem qv_X8_common : qvm md_X8_common pc_X8_common pc_X8_common kk_X8_common = true := by decide +kernel
set_option maxRecDepth 100000 in
theorem qv_X8_lowest : qvm md_X8_lowest pc_X8_lowest pc_X8_lowest kk_X8_lowest = true := by decide +kernel
set_option maxRecDepth 100000 in
theorem qv_X8_bound : qvm md_X8_bound pc_X8_bound pc_X8_bound kk_X8_bound = true := by decide +kernel
set_option maxRecDepth 100000 in
theorem qv_X8_comes : qvm md_X8_comes pc_X8_comes pc_X8_comes kk_X8_comes = true := by decide +kernel
set_option maxRecDepth 100000 in
theorem qv_X8_see : qvm md_X8_see pc_X8_see pc_X8_see kk_X8_see = true := by decide +kernel
set_option maxRecDepth 100000 in
theorem qv_X8_isSeen : qvm md_X8_isSeen pc_X8_isSeen pc_X8_isSeen kk_X8_isSeen = true := by decide +kernel
set_option maxRecDepth 100000 in
theorem qv_X8_fits : qvm md_X8_fits pc_X8_fits pc_X8_fits kk_X8_fits = true := by decide +kernel
set_option maxRecDepth 100000 in
theorem qv_X8_odds : qvm md_X8_odds pc_X8_odds pc_X8_odds kk_X8_odds = true := by decide +kernel
set_option maxRecDepth 100000 in
theorem qv_X8_mean : qvm md_X8_mean pc_X8_mean pc_X8_mean kk_X8_mean = true := by decide +kernel
set_option maxRecDepth 100000 in
theorem qv_X8_event : qvm md_X8_event pc_X8_event pc_X8_event kk_X8_event = true := by decide +kernel
set_option maxRecDepth 100000 in
theorem qv_X8_happens : qvm md_X8_happens pc_X8_happens pc_X8_happens kk_X8_happens = true := by decide +kernel
set_option maxRecDepth 100000 in
theorem qv_X8_after : qvm md_X8_after pc_X8_after pc_X8_after kk_X8_after = true := by decide +kernel
set_option maxRecDepth 100000 in
theorem qv_X8_book : qvm md_X8_book pc_X8_book pc_X8_book kk_X8_book = true := by decide +kernel
set_option maxRecDepth 100000 in
theorem qv_X8_looked : qvm md_X8_looked pc_X8_looked pc_X8_looked kk_X8_looked = true := by decide +kernel
set_option maxRecDepth 100000 in
theorem qv_X8_isTape : qvm md_X8_isTape pc_X8_isTape pc_X8_isTape kk_X8_isTape = true := by decide +kernel
set_option maxRecDepth 100000 in
theorem qv_X8_judge : qvm md_X8_judge pc_X8_judge pc_X8_judge kk_X8_judge = true := by decide +kernel
set_option maxRecDepth 100000 in
theorem qv_X8_image : qvm md_X8_image pc_X8_image pc_X8_image kk_X8_image = true := by decide +kernel
set_option maxRecDepth 100000 in
theorem qv_X8_undo : qvm md_X8_undo pc_X8_undo pc_X8_undo kk_X8_undo = true := by decide +kernel
set_option maxRecDepth 100000 in
theorem qv_X8_count : qvm md_X8_count pc_X8_count pc_X8_count kk_X8_count = true := by decide +kernel
set_option maxRecDepth 100000 in
theorem qv_X8_tape : qvm md_X8_tape pc_X8_tape pc_X8_tape kk_X8_tape = true := by decide +kernel
set_option maxRecDepth 100000 in
theorem qv_X8_lowestBits : qvm md_X8_lowestBits pc_X8_lowestBits pc_X8_lowestBits kk_X8_lowestBits = true := by decide +kernel
set_option maxRecDepth 100000 in
theorem qv_X8_item : qvm md_X8_item pc_X8_item pc_X8_item kk_X8_item = true := by decide +kernel
set_option maxRecDepth 100000 in
theorem qv_X8_peek : qvm md_X8_peek pc_X8_peek pc_X8_peek kk_X8_peek = true := by decide +kernel
set_option maxRecDepth 100000 in
theorem qv_X8_shift : qvm md_X8_shift pc_X8_shift pc_X8_shift kk_X8_shift = true := by decide +kernel
set_option maxRecDepth 100000 in
theorem qv_J13_bitCount_95d88 : qvm md_J13_bitCount_95d88 pc_J13_bitCount_95d88 pc_J13_bitCount_95d88 kk_J13_bitCount_95d88 = true := by decide +kernel
set_option maxRecDepth 100000 in
theorem qv_J0_length_8abf5 : qvm md_J0_length_8abf5 pc_J0_length_8abf5 pc_J0_length_8abf5 kk_J0_length_8abf5 = true := by decide +kernel
set_option maxRecDepth 100000 in
theorem qv_J0_indexOf_0f7a4 : qvm md_J0_indexOf_0f7a4 pc_J0_indexOf_0f7a4 pc_J0_indexOf_0f7a4 kk_J0_indexOf_0f7a4 = true := by decide +kernel
set_option maxRecDepth 100000 in
theorem qv_J0_indexOf_7cf53 : qvm md_J0_indexOf_7cf53 pc_J0_indexOf_7cf53 pc_J0_indexOf_7cf53 kk_J0_indexOf_7cf53 = true := by decide +kernel
set_option maxRecDepth 100000 in
theorem qv_J0_coder_7d493 : qvm md_J0_coder_7d493 pc_J0_coder_7d493 pc_J0_coder_7d493 kk_J0_coder_7d493 = true := by decide +kernel
set_option maxRecDepth 100000 in
theorem qv_J0_isLatin1_aae02 : qvm md_J0_isLatin1_aae02 pc_J0_isLatin1_aae02 pc_J0_isLatin1_aae02 kk_J0_isLatin1_aae02 = true := by decide +kernel
set_option maxRecDepth 100000 in
theorem qv_J1_canEncode_9a6ad : qvm md_J1_canEncode_9a6ad pc_J1_canEncode_9a6ad pc_J1_canEncode_9a6ad kk_J1_canEncode_9a6ad = true := by decide +kernel
set_option maxRecDepth 100000 in
theorem qv_J1_indexOf_4cfef : qvm md_J1_indexOf_4cfef pc_J1_indexOf_4cfef pc_J1_indexOf_4cfef kk_J1_indexOf_4cfef = true := by decide +kernel
set_option maxRecDepth 100000 in
theorem qv_J1_indexOfChar_4cfef : qvm md_J1_indexOfChar_4cfef pc_J1_indexOfChar_4cfef pc_J1_indexOfChar_4cfef kk_J1_indexOfChar_4cfef = true := by decide +kernel
set_option maxRecDepth 100000 in
theorem qv_J7_fill_d0a16 : qvm md_J7_fill_d0a16 pc_J7_fill_d0a16 pc_J7_fill_d0a16 kk_J7_fill_d0a16 = true := by decide +kernel
set_option maxRecDepth 100000 in
theorem qv_J7_fill_53178 : qvm md_J7_fill_53178 pc_J7_fill_53178 pc_J7_fill_53178 kk_J7_fill_53178 = true := by decide +kernel
