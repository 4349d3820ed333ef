set_option maxRecDepth 100000 in
theorem mk_code_0 : mk_all mt_ms_0 mc_l0 = true := by decide +kernel
set_option maxRecDepth 100000 in
theorem mk_code_1 : mk_all mt_ms_1 mc_l1 = true := by decide +kernel
set_option maxRecDepth 100000 in
theorem mk_code_2 : mk_all mt_ms_2 mc_l2 = true := by decide +kernel
set_option maxRecDepth 100000 in
theorem mk_code_3 : mk_all mt_ms_3 mc_l3 = true := by decide +kernel
set_option maxRecDepth 100000 in
theorem mk_code_4 : mk_all mt_ms_4 mc_l4 = true := by decide +kernel
set_option maxRecDepth 100000 in
theorem mk_code_5 : mk_all mt_ms_5 mc_l5 = true := by decide +kernel
