set_option maxRecDepth 100000 in
theorem tk_X2_hasHop : tr_mtok 27 tb_X2_hasHop = true := by decide +kernel
set_option maxRecDepth 100000 in
theorem tk_X2_bareMix : tr_mtok 32 tb_X2_bareMix = true := by decide +kernel
set_option maxRecDepth 100000 in
theorem tk_X2_countChosen : tr_mtok 35 tb_X2_countChosen = true := by decide +kernel
