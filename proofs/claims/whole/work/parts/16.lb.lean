set_option maxRecDepth 100000 in
theorem qvl_22 : qval md_L_law pc_L_law 573 k_L_law_22 = true := by decide +kernel
set_option maxRecDepth 100000 in
theorem qvl_23 : qval md_L_law pc_L_law 626 k_L_law_23 = true := by decide +kernel
set_option maxRecDepth 100000 in
theorem qvl_24 : qval md_L_law pc_L_law 649 k_L_law_24 = true := by decide +kernel
set_option maxRecDepth 100000 in
theorem qvl_25 : qval md_L_law pc_L_law 682 k_L_law_25 = true := by decide +kernel
set_option maxRecDepth 100000 in
theorem qvl_26 : qval md_L_law pc_L_law 715 k_L_law_26 = true := by decide +kernel
set_option maxRecDepth 100000 in
theorem qvl_27 : qval md_L_law pc_L_law 748 k_L_law_27 = true := by decide +kernel
set_option maxRecDepth 100000 in
theorem qvl_28 : qval md_L_law pc_L_law 771 k_L_law_28 = true := by decide +kernel
set_option maxRecDepth 100000 in
theorem qvl_29 : qval md_L_law pc_L_law 795 k_L_law_29 = true := by decide +kernel
set_option maxRecDepth 100000 in
theorem qvl_30 : qval md_L_law pc_L_law 819 k_L_law_30 = true := by decide +kernel
set_option maxRecDepth 100000 in
theorem qvl_31 : qval md_L_law pc_L_law 852 k_L_law_31 = true := by decide +kernel
set_option maxRecDepth 100000 in
theorem qvl_32 : qval md_L_law pc_L_law 885 k_L_law_32 = true := by decide +kernel
set_option maxRecDepth 100000 in
theorem qvl_33 : qval md_L_law pc_L_law 919 k_L_law_33 = true := by decide +kernel
set_option maxRecDepth 100000 in
theorem qvl_34 : qval md_L_law pc_L_law 943 k_L_law_34 = true := by decide +kernel
