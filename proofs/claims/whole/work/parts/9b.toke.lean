set_option maxRecDepth 100000 in
theorem tkl_480 : tr_tokc mi_L_law 1154 tr_dkL 913 ((tb_L_law.drop 480).take 40) = true := by decide +kernel
set_option maxRecDepth 100000 in
theorem tkl_520 : tr_tokc mi_L_law 1154 tr_dkL 968 ((tb_L_law.drop 520).take 40) = true := by decide +kernel
set_option maxRecDepth 100000 in
theorem tkl_560 : tr_tokc mi_L_law 1154 tr_dkL 1028 ((tb_L_law.drop 560).take 40) = true := by decide +kernel
