set_option maxRecDepth 100000 in
theorem tkl_360 : tr_tokc mi_L_law 1154 tr_dkL 732 ((tb_L_law.drop 360).take 40) = true := by decide +kernel
set_option maxRecDepth 100000 in
theorem tkl_400 : tr_tokc mi_L_law 1154 tr_dkL 792 ((tb_L_law.drop 400).take 40) = true := by decide +kernel
set_option maxRecDepth 100000 in
theorem tkl_440 : tr_tokc mi_L_law 1154 tr_dkL 853 ((tb_L_law.drop 440).take 40) = true := by decide +kernel
