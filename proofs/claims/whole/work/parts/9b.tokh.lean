set_option maxRecDepth 100000 in
theorem tkl_840 : tr_tokc mi_L_law 1154 tr_dkL 1447 ((tb_L_law.drop 840).take 40) = true := by decide +kernel
set_option maxRecDepth 100000 in
theorem tkl_880 : tr_tokc mi_L_law 1154 tr_dkL 1503 ((tb_L_law.drop 880).take 40) = true := by decide +kernel
set_option maxRecDepth 100000 in
theorem tkl_920 : tr_tokc mi_L_law 1154 tr_dkL 1565 ((tb_L_law.drop 920).take 40) = true := by decide +kernel
