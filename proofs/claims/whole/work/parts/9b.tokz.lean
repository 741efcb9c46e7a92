theorem tkt_1160 : tr_tok mi_L_law 1154 tr_dkL (tb_L_law.drop 1160) = true := tkl_1160
set_option maxRecDepth 100000 in
theorem tkt_1120 : tr_tok mi_L_law 1154 tr_dkL (tb_L_law.drop 1120) = true := tok_step 1120 40 tkl_1120 tkt_1160 rfl
set_option maxRecDepth 100000 in
theorem tkt_1080 : tr_tok mi_L_law 1154 tr_dkL (tb_L_law.drop 1080) = true := tok_step 1080 40 tkl_1080 tkt_1120 rfl
set_option maxRecDepth 100000 in
theorem tkt_1040 : tr_tok mi_L_law 1154 tr_dkL (tb_L_law.drop 1040) = true := tok_step 1040 40 tkl_1040 tkt_1080 rfl
set_option maxRecDepth 100000 in
theorem tkt_1000 : tr_tok mi_L_law 1154 tr_dkL (tb_L_law.drop 1000) = true := tok_step 1000 40 tkl_1000 tkt_1040 rfl
set_option maxRecDepth 100000 in
theorem tkt_960 : tr_tok mi_L_law 1154 tr_dkL (tb_L_law.drop 960) = true := tok_step 960 40 tkl_960 tkt_1000 rfl
set_option maxRecDepth 100000 in
theorem tkt_920 : tr_tok mi_L_law 1154 tr_dkL (tb_L_law.drop 920) = true := tok_step 920 40 tkl_920 tkt_960 rfl
set_option maxRecDepth 100000 in
theorem tkt_880 : tr_tok mi_L_law 1154 tr_dkL (tb_L_law.drop 880) = true := tok_step 880 40 tkl_880 tkt_920 rfl
set_option maxRecDepth 100000 in
theorem tkt_840 : tr_tok mi_L_law 1154 tr_dkL (tb_L_law.drop 840) = true := tok_step 840 40 tkl_840 tkt_880 rfl
set_option maxRecDepth 100000 in
theorem tkt_800 : tr_tok mi_L_law 1154 tr_dkL (tb_L_law.drop 800) = true := tok_step 800 40 tkl_800 tkt_840 rfl
set_option maxRecDepth 100000 in
theorem tkt_760 : tr_tok mi_L_law 1154 tr_dkL (tb_L_law.drop 760) = true := tok_step 760 40 tkl_760 tkt_800 rfl
set_option maxRecDepth 100000 in
theorem tkt_720 : tr_tok mi_L_law 1154 tr_dkL (tb_L_law.drop 720) = true := tok_step 720 40 tkl_720 tkt_760 rfl
set_option maxRecDepth 100000 in
theorem tkt_680 : tr_tok mi_L_law 1154 tr_dkL (tb_L_law.drop 680) = true := tok_step 680 40 tkl_680 tkt_720 rfl
set_option maxRecDepth 100000 in
theorem tkt_640 : tr_tok mi_L_law 1154 tr_dkL (tb_L_law.drop 640) = true := tok_step 640 40 tkl_640 tkt_680 rfl
set_option maxRecDepth 100000 in
theorem tkt_600 : tr_tok mi_L_law 1154 tr_dkL (tb_L_law.drop 600) = true := tok_step 600 40 tkl_600 tkt_640 rfl
set_option maxRecDepth 100000 in
theorem tkt_560 : tr_tok mi_L_law 1154 tr_dkL (tb_L_law.drop 560) = true := tok_step 560 40 tkl_560 tkt_600 rfl
set_option maxRecDepth 100000 in
theorem tkt_520 : tr_tok mi_L_law 1154 tr_dkL (tb_L_law.drop 520) = true := tok_step 520 40 tkl_520 tkt_560 rfl
set_option maxRecDepth 100000 in
theorem tkt_480 : tr_tok mi_L_law 1154 tr_dkL (tb_L_law.drop 480) = true := tok_step 480 40 tkl_480 tkt_520 rfl
set_option maxRecDepth 100000 in
theorem tkt_440 : tr_tok mi_L_law 1154 tr_dkL (tb_L_law.drop 440) = true := tok_step 440 40 tkl_440 tkt_480 rfl
set_option maxRecDepth 100000 in
theorem tkt_400 : tr_tok mi_L_law 1154 tr_dkL (tb_L_law.drop 400) = true := tok_step 400 40 tkl_400 tkt_440 rfl
set_option maxRecDepth 100000 in
theorem tkt_360 : tr_tok mi_L_law 1154 tr_dkL (tb_L_law.drop 360) = true := tok_step 360 40 tkl_360 tkt_400 rfl
set_option maxRecDepth 100000 in
theorem tkt_320 : tr_tok mi_L_law 1154 tr_dkL (tb_L_law.drop 320) = true := tok_step 320 40 tkl_320 tkt_360 rfl
set_option maxRecDepth 100000 in
theorem tkt_280 : tr_tok mi_L_law 1154 tr_dkL (tb_L_law.drop 280) = true := tok_step 280 40 tkl_280 tkt_320 rfl
set_option maxRecDepth 100000 in
theorem tkt_240 : tr_tok mi_L_law 1154 tr_dkL (tb_L_law.drop 240) = true := tok_step 240 40 tkl_240 tkt_280 rfl
set_option maxRecDepth 100000 in
theorem tkt_200 : tr_tok mi_L_law 1154 tr_dkL (tb_L_law.drop 200) = true := tok_step 200 40 tkl_200 tkt_240 rfl
set_option maxRecDepth 100000 in
theorem tkt_160 : tr_tok mi_L_law 1154 tr_dkL (tb_L_law.drop 160) = true := tok_step 160 40 tkl_160 tkt_200 rfl
set_option maxRecDepth 100000 in
theorem tkt_120 : tr_tok mi_L_law 1154 tr_dkL (tb_L_law.drop 120) = true := tok_step 120 40 tkl_120 tkt_160 rfl
set_option maxRecDepth 100000 in
theorem tkt_80 : tr_tok mi_L_law 1154 tr_dkL (tb_L_law.drop 80) = true := tok_step 80 40 tkl_80 tkt_120 rfl
set_option maxRecDepth 100000 in
theorem tkt_40 : tr_tok mi_L_law 1154 tr_dkL (tb_L_law.drop 40) = true := tok_step 40 40 tkl_40 tkt_80 rfl
set_option maxRecDepth 100000 in
theorem tkt_0 : tr_tok mi_L_law 1154 tr_dkL (tb_L_law.drop 0) = true := tok_step 0 40 tkl_0 tkt_40 rfl
theorem tk_L_law : tr_tok mi_L_law 1154 tr_dkL tb_L_law = true := tkt_0
