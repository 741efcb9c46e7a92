set_option maxRecDepth 100000 in
theorem tkl_240 : tr_tokc mi_L_law 1154 tr_dkL 543 ((tb_L_law.drop 240).take 40) = true := by decide +kernel
set_option maxRecDepth 100000 in
theorem tkl_280 : tr_tokc mi_L_law 1154 tr_dkL 603 ((tb_L_law.drop 280).take 40) = true := by decide +kernel
set_option maxRecDepth 100000 in
theorem tkl_320 : tr_tokc mi_L_law 1154 tr_dkL 670 ((tb_L_law.drop 320).take 40) = true := by decide +kernel
