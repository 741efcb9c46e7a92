set_option maxRecDepth 100000 in
theorem tk_X1_init : tr_mtok 7 tb_X1_init = true := by decide +kernel
set_option maxRecDepth 100000 in
theorem tk_X1_join : tr_mtok 11 tb_X1_join = true := by decide +kernel
set_option maxRecDepth 100000 in
theorem tk_X2_init : tr_mtok 25 tb_X2_init = true := by decide +kernel
set_option maxRecDepth 100000 in
theorem tk_X2_fits : tr_mtok 31 tb_X2_fits = true := by decide +kernel
set_option maxRecDepth 100000 in
theorem tk_X2_bareMix : tr_mtok 32 tb_X2_bareMix = true := by decide +kernel
set_option maxRecDepth 100000 in
theorem tk_X3_init : tr_mtok 37 tb_X3_init = true := by decide +kernel
set_option maxRecDepth 100000 in
theorem tk_X4_readLine : tr_mtok 46 tb_X4_readLine = true := by decide +kernel
set_option maxRecDepth 100000 in
theorem tk_X4_skipBlanks : tr_mtok 55 tb_X4_skipBlanks = true := by decide +kernel
