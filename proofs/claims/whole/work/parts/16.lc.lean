set_option maxRecDepth 100000 in
theorem qvl_35 : qval md_L_law pc_L_law 976 k_L_law_35 = true := by decide +kernel
set_option maxRecDepth 100000 in
theorem qvl_36 : qval md_L_law pc_L_law 999 k_L_law_36 = true := by decide +kernel
set_option maxRecDepth 100000 in
theorem qvl_37 : qval md_L_law pc_L_law 1032 k_L_law_37 = true := by decide +kernel
set_option maxRecDepth 100000 in
theorem qvl_38 : qval md_L_law pc_L_law 1045 k_L_law_38 = true := by decide +kernel
set_option maxRecDepth 100000 in
theorem qvl_39 : qval md_L_law pc_L_law 1078 k_L_law_39 = true := by decide +kernel
set_option maxRecDepth 100000 in
theorem qvl_40 : qval md_L_law pc_L_law 1091 k_L_law_40 = true := by decide +kernel
set_option maxRecDepth 100000 in
theorem qvl_41 : qval md_L_law pc_L_law 1104 k_L_law_41 = true := by decide +kernel
set_option maxRecDepth 100000 in
theorem qvl_42 : qval md_L_law pc_L_law 1127 k_L_law_42 = true := by decide +kernel
set_option maxRecDepth 100000 in
theorem qvl_43 : qval md_L_law pc_L_law 1170 k_L_law_43 = true := by decide +kernel
set_option maxRecDepth 100000 in
theorem qvl_44 : qval md_L_law pc_L_law 1243 k_L_law_44 = true := by decide +kernel
set_option maxRecDepth 100000 in
theorem qvl_45 : qval md_L_law pc_L_law 1277 k_L_law_45 = true := by decide +kernel
set_option maxRecDepth 100000 in
theorem qvl_46 : qval md_L_law pc_L_law 1340 k_L_law_46 = true := by decide +kernel
set_option maxRecDepth 100000 in
theorem qvl_47 : qval md_L_law pc_L_law 1346 k_L_law_47 = true := by decide +kernel
