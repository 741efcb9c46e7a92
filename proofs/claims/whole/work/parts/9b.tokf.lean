set_option maxRecDepth 100000 in
theorem tkl_600 : tr_tokc mi_L_law 1154 tr_dkL 1088 ((tb_L_law.drop 600).take 40) = true := by decide +kernel
set_option maxRecDepth 100000 in
theorem tkl_640 : tr_tokc mi_L_law 1154 tr_dkL 1151 ((tb_L_law.drop 640).take 40) = true := by decide +kernel
set_option maxRecDepth 100000 in
theorem tkl_680 : tr_tokc mi_L_law 1154 tr_dkL 1207 ((tb_L_law.drop 680).take 40) = true := by decide +kernel
