set_option maxRecDepth 100000 in
theorem tkl_1080 : tr_tokc mi_L_law 1154 tr_dkL 1822 ((tb_L_law.drop 1080).take 40) = true := by decide +kernel
set_option maxRecDepth 100000 in
theorem tkl_1120 : tr_tokc mi_L_law 1154 tr_dkL 1887 ((tb_L_law.drop 1120).take 40) = true := by decide +kernel
set_option maxRecDepth 100000 in
theorem tkl_1160 : tr_tok mi_L_law 1154 tr_dkL (tb_L_law.drop 1160) = true := by decide +kernel
