set_option maxRecDepth 100000 in
theorem tkl_120 : tr_tokc mi_L_law 1154 tr_dkL 363 ((tb_L_law.drop 120).take 40) = true := by decide +kernel
set_option maxRecDepth 100000 in
theorem tkl_160 : tr_tokc mi_L_law 1154 tr_dkL 423 ((tb_L_law.drop 160).take 40) = true := by decide +kernel
set_option maxRecDepth 100000 in
theorem tkl_200 : tr_tokc mi_L_law 1154 tr_dkL 485 ((tb_L_law.drop 200).take 40) = true := by decide +kernel
