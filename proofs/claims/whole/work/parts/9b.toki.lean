set_option maxRecDepth 100000 in
theorem tkl_960 : tr_tokc mi_L_law 1154 tr_dkL 1631 ((tb_L_law.drop 960).take 40) = true := by decide +kernel
set_option maxRecDepth 100000 in
theorem tkl_1000 : tr_tokc mi_L_law 1154 tr_dkL 1698 ((tb_L_law.drop 1000).take 40) = true := by decide +kernel
set_option maxRecDepth 100000 in
theorem tkl_1040 : tr_tokc mi_L_law 1154 tr_dkL 1760 ((tb_L_law.drop 1040).take 40) = true := by decide +kernel
