set_option maxRecDepth 100000 in
theorem qvl_0 : qval md_L_law pc_L_law 0 k_L_law_0 = true := by decide +kernel
set_option maxRecDepth 100000 in
theorem qvl_1 : qval md_L_law pc_L_law 16 k_L_law_1 = true := by decide +kernel
set_option maxRecDepth 100000 in
theorem qvl_2 : qval md_L_law pc_L_law 18 k_L_law_2 = true := by decide +kernel
set_option maxRecDepth 100000 in
theorem qvl_3 : qval md_L_law pc_L_law 188 k_L_law_3 = true := by decide +kernel
set_option maxRecDepth 100000 in
theorem qvl_4 : qval md_L_law pc_L_law 221 k_L_law_4 = true := by decide +kernel
set_option maxRecDepth 100000 in
theorem qvl_5 : qval md_L_law pc_L_law 244 k_L_law_5 = true := by decide +kernel
set_option maxRecDepth 100000 in
theorem qvl_6 : qval md_L_law pc_L_law 272 k_L_law_6 = true := by decide +kernel
set_option maxRecDepth 100000 in
theorem qvl_7 : qval md_L_law pc_L_law 273 k_L_law_7 = true := by decide +kernel
set_option maxRecDepth 100000 in
theorem qvl_8 : qval md_L_law pc_L_law 304 k_L_law_8 = true := by decide +kernel
set_option maxRecDepth 100000 in
theorem qvl_9 : qval md_L_law pc_L_law 305 k_L_law_9 = true := by decide +kernel
set_option maxRecDepth 100000 in
theorem qvl_10 : qval md_L_law pc_L_law 313 k_L_law_10 = true := by decide +kernel
set_option maxRecDepth 100000 in
theorem qvl_11 : qval md_L_law pc_L_law 356 k_L_law_11 = true := by decide +kernel
set_option maxRecDepth 100000 in
theorem qvl_12 : qval md_L_law pc_L_law 374 k_L_law_12 = true := by decide +kernel
set_option maxRecDepth 100000 in
theorem qvl_13 : qval md_L_law pc_L_law 375 k_L_law_13 = true := by decide +kernel
set_option maxRecDepth 100000 in
theorem qvl_14 : qval md_L_law pc_L_law 396 k_L_law_14 = true := by decide +kernel
set_option maxRecDepth 100000 in
theorem qvl_15 : qval md_L_law pc_L_law 397 k_L_law_15 = true := by decide +kernel
set_option maxRecDepth 100000 in
theorem qvl_16 : qval md_L_law pc_L_law 405 k_L_law_16 = true := by decide +kernel
set_option maxRecDepth 100000 in
theorem qvl_17 : qval md_L_law pc_L_law 438 k_L_law_17 = true := by decide +kernel
set_option maxRecDepth 100000 in
theorem qvl_18 : qval md_L_law pc_L_law 471 k_L_law_18 = true := by decide +kernel
set_option maxRecDepth 100000 in
theorem qvl_19 : qval md_L_law pc_L_law 484 k_L_law_19 = true := by decide +kernel
set_option maxRecDepth 100000 in
theorem qvl_20 : qval md_L_law pc_L_law 507 k_L_law_20 = true := by decide +kernel
set_option maxRecDepth 100000 in
theorem qvl_21 : qval md_L_law pc_L_law 520 k_L_law_21 = true := by decide +kernel
