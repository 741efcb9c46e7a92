set_option maxRecDepth 100000 in
theorem tkl_720 : tr_tokc mi_L_law 1154 tr_dkL 1266 ((tb_L_law.drop 720).take 40) = true := by decide +kernel
set_option maxRecDepth 100000 in
theorem tkl_760 : tr_tokc mi_L_law 1154 tr_dkL 1327 ((tb_L_law.drop 760).take 40) = true := by decide +kernel
set_option maxRecDepth 100000 in
theorem tkl_800 : tr_tokc mi_L_law 1154 tr_dkL 1390 ((tb_L_law.drop 800).take 40) = true := by decide +kernel
