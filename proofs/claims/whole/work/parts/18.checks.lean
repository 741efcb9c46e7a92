/-! EACH TABLE IS RIGHT -/
set_option maxRecDepth 100000 in
theorem tk_X0_init : tr_mtok 0 tb_X0_init = true := by decide +kernel
set_option maxRecDepth 100000 in
theorem tk_X0_gather : tr_mtok 1 tb_X0_gather = true := by decide +kernel
set_option maxRecDepth 100000 in
theorem tk_X0_isChosen : tr_mtok 2 tb_X0_isChosen = true := by decide +kernel
set_option maxRecDepth 100000 in
theorem tk_X0_chosenBy : tr_mtok 3 tb_X0_chosenBy = true := by decide +kernel
set_option maxRecDepth 100000 in
theorem tk_X0_clashesBy : tr_mtok 4 tb_X0_clashesBy = true := by decide +kernel
set_option maxRecDepth 100000 in
theorem tk_X0_unlikeMixes : tr_mtok 5 tb_X0_unlikeMixes = true := by decide +kernel
set_option maxRecDepth 100000 in
theorem tk_X0_isFirstOfItsMix : tr_mtok 6 tb_X0_isFirstOfItsMix = true := by decide +kernel
set_option maxRecDepth 100000 in
theorem tk_X1_init : tr_mtok 7 tb_X1_init = true := by decide +kernel
set_option maxRecDepth 100000 in
theorem tk_X1_gather : tr_mtok 8 tb_X1_gather = true := by decide +kernel
set_option maxRecDepth 100000 in
theorem tk_X1_gatherOf : tr_mtok 9 tb_X1_gatherOf = true := by decide +kernel
set_option maxRecDepth 100000 in
theorem tk_X1_hasReports : tr_mtok 10 tb_X1_hasReports = true := by decide +kernel
set_option maxRecDepth 100000 in
theorem tk_X1_join : tr_mtok 11 tb_X1_join = true := by decide +kernel
set_option maxRecDepth 100000 in
theorem tk_X1_nextMove : tr_mtok 12 tb_X1_nextMove = true := by decide +kernel
set_option maxRecDepth 100000 in
theorem tk_X1_stand : tr_mtok 13 tb_X1_stand = true := by decide +kernel
set_option maxRecDepth 100000 in
theorem tk_X1_openWalk : tr_mtok 14 tb_X1_openWalk = true := by decide +kernel
set_option maxRecDepth 100000 in
theorem tk_X1_goOn : tr_mtok 15 tb_X1_goOn = true := by decide +kernel
set_option maxRecDepth 100000 in
theorem tk_X1_endWalk : tr_mtok 16 tb_X1_endWalk = true := by decide +kernel
set_option maxRecDepth 100000 in
theorem tk_X1_takeBack : tr_mtok 17 tb_X1_takeBack = true := by decide +kernel
set_option maxRecDepth 100000 in
theorem tk_X1_keepSet : tr_mtok 18 tb_X1_keepSet = true := by decide +kernel
set_option maxRecDepth 100000 in
theorem tk_X1_linkOfWalk : tr_mtok 19 tb_X1_linkOfWalk = true := by decide +kernel
set_option maxRecDepth 100000 in
theorem tk_X1_lastHop : tr_mtok 20 tb_X1_lastHop = true := by decide +kernel
set_option maxRecDepth 100000 in
theorem tk_X1_countWalks : tr_mtok 21 tb_X1_countWalks = true := by decide +kernel
set_option maxRecDepth 100000 in
theorem tk_X1_releaseWalks : tr_mtok 22 tb_X1_releaseWalks = true := by decide +kernel
set_option maxRecDepth 100000 in
theorem tk_X1_claimWalk : tr_mtok 23 tb_X1_claimWalk = true := by decide +kernel
set_option maxRecDepth 100000 in
theorem tk_X1_isTrail : tr_mtok 24 tb_X1_isTrail = true := by decide +kernel
set_option maxRecDepth 100000 in
theorem tk_X2_init : tr_mtok 25 tb_X2_init = true := by decide +kernel
set_option maxRecDepth 100000 in
theorem tk_X2_init_ : tr_mtok 26 tb_X2_init_ = true := by decide +kernel
set_option maxRecDepth 100000 in
theorem tk_X2_hasHop : tr_mtok 27 tb_X2_hasHop = true := by decide +kernel
set_option maxRecDepth 100000 in
theorem tk_X2_hasLink : tr_mtok 28 tb_X2_hasLink = true := by decide +kernel
set_option maxRecDepth 100000 in
theorem tk_X2_addLink : tr_mtok 29 tb_X2_addLink = true := by decide +kernel
set_option maxRecDepth 100000 in
theorem tk_X2_linkBetween : tr_mtok 30 tb_X2_linkBetween = true := by decide +kernel
set_option maxRecDepth 100000 in
theorem tk_X2_fits : tr_mtok 31 tb_X2_fits = true := by decide +kernel
set_option maxRecDepth 100000 in
theorem tk_X2_bareMix : tr_mtok 32 tb_X2_bareMix = true := by decide +kernel
set_option maxRecDepth 100000 in
theorem tk_X2_mixOf : tr_mtok 33 tb_X2_mixOf = true := by decide +kernel
set_option maxRecDepth 100000 in
theorem tk_X2_chooses : tr_mtok 34 tb_X2_chooses = true := by decide +kernel
set_option maxRecDepth 100000 in
theorem tk_X2_countChosen : tr_mtok 35 tb_X2_countChosen = true := by decide +kernel
set_option maxRecDepth 100000 in
theorem tk_X2_labelOf : tr_mtok 36 tb_X2_labelOf = true := by decide +kernel
set_option maxRecDepth 100000 in
theorem tk_X3_init : tr_mtok 37 tb_X3_init = true := by decide +kernel
set_option maxRecDepth 100000 in
theorem tk_X3_follow : tr_mtok 38 tb_X3_follow = true := by decide +kernel
set_option maxRecDepth 100000 in
theorem tk_X3_fateAt : tr_mtok 39 tb_X3_fateAt = true := by decide +kernel
set_option maxRecDepth 100000 in
theorem tk_X3_fieldAt : tr_mtok 40 tb_X3_fieldAt = true := by decide +kernel
set_option maxRecDepth 100000 in
theorem tk_X3_isCountedAt : tr_mtok 41 tb_X3_isCountedAt = true := by decide +kernel
set_option maxRecDepth 100000 in
theorem tk_X4_init : tr_mtok 42 tb_X4_init = true := by decide +kernel
set_option maxRecDepth 100000 in
theorem tk_X4_readAll : tr_mtok 43 tb_X4_readAll = true := by decide +kernel
set_option maxRecDepth 100000 in
theorem tk_X4_isAtEnd : tr_mtok 44 tb_X4_isAtEnd = true := by decide +kernel
set_option maxRecDepth 100000 in
theorem tk_X4_readHops : tr_mtok 45 tb_X4_readHops = true := by decide +kernel
set_option maxRecDepth 100000 in
theorem tk_X4_readLine : tr_mtok 46 tb_X4_readLine = true := by decide +kernel
set_option maxRecDepth 100000 in
theorem tk_X4_readLink : tr_mtok 47 tb_X4_readLink = true := by decide +kernel
set_option maxRecDepth 100000 in
theorem tk_X4_readCut : tr_mtok 48 tb_X4_readCut = true := by decide +kernel
set_option maxRecDepth 100000 in
theorem tk_X4_readRoute : tr_mtok 49 tb_X4_readRoute = true := by decide +kernel
set_option maxRecDepth 100000 in
theorem tk_X4_readSetting : tr_mtok 50 tb_X4_readSetting = true := by decide +kernel
set_option maxRecDepth 100000 in
theorem tk_X4_readNear : tr_mtok 51 tb_X4_readNear = true := by decide +kernel
set_option maxRecDepth 100000 in
theorem tk_X4_readFar : tr_mtok 52 tb_X4_readFar = true := by decide +kernel
set_option maxRecDepth 100000 in
theorem tk_X4_readNumber : tr_mtok 53 tb_X4_readNumber = true := by decide +kernel
set_option maxRecDepth 100000 in
theorem tk_X4_readSemicolon : tr_mtok 54 tb_X4_readSemicolon = true := by decide +kernel
set_option maxRecDepth 100000 in
theorem tk_X4_skipBlanks : tr_mtok 55 tb_X4_skipBlanks = true := by decide +kernel
set_option maxRecDepth 100000 in
theorem tk_X4_skipLetters : tr_mtok 56 tb_X4_skipLetters = true := by decide +kernel
set_option maxRecDepth 100000 in
theorem tk_X4_isWord : tr_mtok 57 tb_X4_isWord = true := by decide +kernel
set_option maxRecDepth 100000 in
theorem tk_X4_refuse : tr_mtok 58 tb_X4_refuse = true := by decide +kernel
set_option maxRecDepth 100000 in
theorem tk_X5_init : tr_mtok 59 tb_X5_init = true := by decide +kernel
set_option maxRecDepth 100000 in
theorem tk_X5_clear : tr_mtok 60 tb_X5_clear = true := by decide +kernel
set_option maxRecDepth 100000 in
theorem tk_X5_add : tr_mtok 61 tb_X5_add = true := by decide +kernel
set_option maxRecDepth 100000 in
theorem tk_X5_chosenBy : tr_mtok 62 tb_X5_chosenBy = true := by decide +kernel
set_option maxRecDepth 100000 in
theorem tk_X5_sumOverKeys : tr_mtok 63 tb_X5_sumOverKeys = true := by decide +kernel
set_option maxRecDepth 100000 in
theorem tk_X6_init : tr_mtok 64 tb_X6_init = true := by decide +kernel
set_option maxRecDepth 100000 in
theorem tk_X6_init_ : tr_mtok 65 tb_X6_init_ = true := by decide +kernel
set_option maxRecDepth 100000 in
theorem tk_X6_hasPacket : tr_mtok 66 tb_X6_hasPacket = true := by decide +kernel
set_option maxRecDepth 100000 in
theorem tk_X6_add : tr_mtok 67 tb_X6_add = true := by decide +kernel
set_option maxRecDepth 100000 in
theorem tk_X6_countReports : tr_mtok 68 tb_X6_countReports = true := by decide +kernel
set_option maxRecDepth 100000 in
theorem tk_X6_countPartlyChosen : tr_mtok 69 tb_X6_countPartlyChosen = true := by decide +kernel
set_option maxRecDepth 100000 in
theorem tk_X6_countFates : tr_mtok 70 tb_X6_countFates = true := by decide +kernel
set_option maxRecDepth 100000 in
theorem tk_X6_countTrails : tr_mtok 71 tb_X6_countTrails = true := by decide +kernel
set_option maxRecDepth 100000 in
theorem tk_X7_init : tr_mtok 72 tb_X7_init = true := by decide +kernel
set_option maxRecDepth 100000 in
theorem tk_X7_feed : tr_mtok 73 tb_X7_feed = true := by decide +kernel
set_option maxRecDepth 100000 in
theorem tk_X7_text : tr_mtok 74 tb_X7_text = true := by decide +kernel
set_option maxRecDepth 100000 in
theorem tk_X7_fault : tr_mtok 75 tb_X7_fault = true := by decide +kernel
set_option maxRecDepth 100000 in
theorem tk_X7_send : tr_mtok 76 tb_X7_send = true := by decide +kernel
set_option maxRecDepth 100000 in
theorem tk_X7_forget : tr_mtok 77 tb_X7_forget = true := by decide +kernel
set_option maxRecDepth 100000 in
theorem tk_X7_link : tr_mtok 78 tb_X7_link = true := by decide +kernel
set_option maxRecDepth 100000 in
theorem tk_X7_route : tr_mtok 79 tb_X7_route = true := by decide +kernel
set_option maxRecDepth 100000 in
theorem tk_X7_set : tr_mtok 80 tb_X7_set = true := by decide +kernel
set_option maxRecDepth 100000 in
theorem tk_X7_undo : tr_mtok 81 tb_X7_undo = true := by decide +kernel
set_option maxRecDepth 100000 in
theorem tk_X7_told : tr_mtok 82 tb_X7_told = true := by decide +kernel
set_option maxRecDepth 100000 in
theorem tk_X7_linkTold : tr_mtok 83 tb_X7_linkTold = true := by decide +kernel
set_option maxRecDepth 100000 in
theorem tk_X7_routeTold : tr_mtok 84 tb_X7_routeTold = true := by decide +kernel
set_option maxRecDepth 100000 in
theorem tk_X7_packet : tr_mtok 85 tb_X7_packet = true := by decide +kernel
set_option maxRecDepth 100000 in
theorem tk_X7_trail : tr_mtok 86 tb_X7_trail = true := by decide +kernel
set_option maxRecDepth 100000 in
theorem tk_X7_reports : tr_mtok 87 tb_X7_reports = true := by decide +kernel
set_option maxRecDepth 100000 in
theorem tk_X7_label : tr_mtok 88 tb_X7_label = true := by decide +kernel
set_option maxRecDepth 100000 in
theorem tk_X7_joints : tr_mtok 89 tb_X7_joints = true := by decide +kernel
set_option maxRecDepth 100000 in
theorem tk_X7_walk : tr_mtok 90 tb_X7_walk = true := by decide +kernel
set_option maxRecDepth 100000 in
theorem tk_X7_walkAt : tr_mtok 91 tb_X7_walkAt = true := by decide +kernel
set_option maxRecDepth 100000 in
theorem tk_X7_joined : tr_mtok 92 tb_X7_joined = true := by decide +kernel
set_option maxRecDepth 100000 in
theorem tk_X7_estimate : tr_mtok 93 tb_X7_estimate = true := by decide +kernel
set_option maxRecDepth 100000 in
theorem tk_X7_matrix : tr_mtok 94 tb_X7_matrix = true := by decide +kernel
set_option maxRecDepth 100000 in
theorem tk_X7_fates : tr_mtok 95 tb_X7_fates = true := by decide +kernel
set_option maxRecDepth 100000 in
theorem tk_X7_leastLabels : tr_mtok 96 tb_X7_leastLabels = true := by decide +kernel
set_option maxRecDepth 100000 in
theorem tk_X7_unlike : tr_mtok 97 tb_X7_unlike = true := by decide +kernel
set_option maxRecDepth 100000 in
theorem tk_X7_clashes : tr_mtok 98 tb_X7_clashes = true := by decide +kernel
set_option maxRecDepth 100000 in
theorem tk_X7_bestKey : tr_mtok 99 tb_X7_bestKey = true := by decide +kernel
set_option maxRecDepth 100000 in
theorem tk_X7_bestMask : tr_mtok 100 tb_X7_bestMask = true := by decide +kernel
set_option maxRecDepth 100000 in
theorem tk_X7_print : tr_mtok 101 tb_X7_print = true := by decide +kernel
set_option maxRecDepth 100000 in
theorem tk_X7_status : tr_mtok 102 tb_X7_status = true := by decide +kernel
set_option maxRecDepth 100000 in
theorem tk_X7_find : tr_mtok 103 tb_X7_find = true := by decide +kernel
set_option maxRecDepth 100000 in
theorem tk_X7_require : tr_mtok 104 tb_X7_require = true := by decide +kernel
set_option maxRecDepth 100000 in
theorem tk_X7_refuseWhenFull : tr_mtok 105 tb_X7_refuseWhenFull = true := by decide +kernel
set_option maxRecDepth 100000 in
theorem tk_X7_putOnTape : tr_mtok 106 tb_X7_putOnTape = true := by decide +kernel
set_option maxRecDepth 100000 in
theorem tk_X7_keepState : tr_mtok 107 tb_X7_keepState = true := by decide +kernel
set_option maxRecDepth 100000 in
theorem tk_X7_isLabel : tr_mtok 108 tb_X7_isLabel = true := by decide +kernel
set_option maxRecDepth 100000 in
theorem tk_X7_chosenAtFirst : tr_mtok 109 tb_X7_chosenAtFirst = true := by decide +kernel
set_option maxRecDepth 100000 in
theorem tk_X7_clashesAmong : tr_mtok 110 tb_X7_clashesAmong = true := by decide +kernel
set_option maxRecDepth 100000 in
theorem tk_X7_walksOrWhyNone : tr_mtok 111 tb_X7_walksOrWhyNone = true := by decide +kernel
set_option maxRecDepth 100000 in
theorem tk_X7_isJoinedAs : tr_mtok 112 tb_X7_isJoinedAs = true := by decide +kernel
set_option maxRecDepth 100000 in
theorem tk_X7_walksAreTrails : tr_mtok 113 tb_X7_walksAreTrails = true := by decide +kernel
set_option maxRecDepth 100000 in
theorem tk_X7_sureWalks : tr_mtok 114 tb_X7_sureWalks = true := by decide +kernel
set_option maxRecDepth 100000 in
theorem tk_X7_isCounted : tr_mtok 115 tb_X7_isCounted = true := by decide +kernel
set_option maxRecDepth 100000 in
theorem tk_X7_weigh : tr_mtok 116 tb_X7_weigh = true := by decide +kernel
set_option maxRecDepth 100000 in
theorem tk_X7_reduced : tr_mtok 117 tb_X7_reduced = true := by decide +kernel
set_option maxRecDepth 100000 in
theorem tk_X7_commonDivisor : tr_mtok 118 tb_X7_commonDivisor = true := by decide +kernel
set_option maxRecDepth 100000 in
theorem tk_X8_thrown : tr_mtok 119 tb_X8_thrown = true := by decide +kernel
set_option maxRecDepth 100000 in
theorem tk_X8_isFine : tr_mtok 120 tb_X8_isFine = true := by decide +kernel
set_option maxRecDepth 100000 in
theorem tk_X8_within : tr_mtok 121 tb_X8_within = true := by decide +kernel
set_option maxRecDepth 100000 in
theorem tk_X8_init : tr_mtok 122 tb_X8_init = true := by decide +kernel
set_option maxRecDepth 100000 in
theorem tk_X8_clears : tr_mtok 123 tb_X8_clears = true := by decide +kernel
set_option maxRecDepth 100000 in
theorem tk_X8_of : tr_mtok 124 tb_X8_of = true := by decide +kernel
set_option maxRecDepth 100000 in
theorem tk_X8_isCut : tr_mtok 125 tb_X8_isCut = true := by decide +kernel
set_option maxRecDepth 100000 in
theorem tk_X8_routeOf : tr_mtok 126 tb_X8_routeOf = true := by decide +kernel
set_option maxRecDepth 100000 in
theorem tk_X8_goes : tr_mtok 127 tb_X8_goes = true := by decide +kernel
set_option maxRecDepth 100000 in
theorem tk_X8_linkAt : tr_mtok 128 tb_X8_linkAt = true := by decide +kernel
set_option maxRecDepth 100000 in
theorem tk_X8_hopAt : tr_mtok 129 tb_X8_hopAt = true := by decide +kernel
set_option maxRecDepth 100000 in
theorem tk_X8_mixed : tr_mtok 130 tb_X8_mixed = true := by decide +kernel
set_option maxRecDepth 100000 in
theorem tk_X8_mixBy : tr_mtok 131 tb_X8_mixBy = true := by decide +kernel
set_option maxRecDepth 100000 in
theorem tk_X8_mixAt : tr_mtok 132 tb_X8_mixAt = true := by decide +kernel
set_option maxRecDepth 100000 in
theorem tk_X8_isChosen : tr_mtok 133 tb_X8_isChosen = true := by decide +kernel
set_option maxRecDepth 100000 in
theorem tk_X8_hashOf : tr_mtok 134 tb_X8_hashOf = true := by decide +kernel
set_option maxRecDepth 100000 in
theorem tk_X8_labelOf : tr_mtok 135 tb_X8_labelOf = true := by decide +kernel
set_option maxRecDepth 100000 in
theorem tk_X8_feed : tr_mtok 136 tb_X8_feed = true := by decide +kernel
set_option maxRecDepth 100000 in
theorem tk_X8_puts : tr_mtok 137 tb_X8_puts = true := by decide +kernel
set_option maxRecDepth 100000 in
theorem tk_X8_wrong : tr_mtok 138 tb_X8_wrong = true := by decide +kernel
set_option maxRecDepth 100000 in
theorem tk_X8_sign : tr_mtok 139 tb_X8_sign = true := by decide +kernel
set_option maxRecDepth 100000 in
theorem tk_X8_isSmall : tr_mtok 140 tb_X8_isSmall = true := by decide +kernel
set_option maxRecDepth 100000 in
theorem tk_X8_passes : tr_mtok 141 tb_X8_passes = true := by decide +kernel
set_option maxRecDepth 100000 in
theorem tk_X8_number : tr_mtok 142 tb_X8_number = true := by decide +kernel
set_option maxRecDepth 100000 in
theorem tk_X8_ends : tr_mtok 143 tb_X8_ends = true := by decide +kernel
set_option maxRecDepth 100000 in
theorem tk_X8_linkBy : tr_mtok 144 tb_X8_linkBy = true := by decide +kernel
set_option maxRecDepth 100000 in
theorem tk_X8_other : tr_mtok 145 tb_X8_other = true := by decide +kernel
set_option maxRecDepth 100000 in
theorem tk_X8_readsLink : tr_mtok 146 tb_X8_readsLink = true := by decide +kernel
set_option maxRecDepth 100000 in
theorem tk_X8_cutTold : tr_mtok 147 tb_X8_cutTold = true := by decide +kernel
set_option maxRecDepth 100000 in
theorem tk_X8_readsRoute : tr_mtok 148 tb_X8_readsRoute = true := by decide +kernel
set_option maxRecDepth 100000 in
theorem tk_X8_baseTold : tr_mtok 149 tb_X8_baseTold = true := by decide +kernel
set_option maxRecDepth 100000 in
theorem tk_X8_oneLine : tr_mtok 150 tb_X8_oneLine = true := by decide +kernel
set_option maxRecDepth 100000 in
theorem tk_X8_text : tr_mtok 151 tb_X8_text = true := by decide +kernel
set_option maxRecDepth 100000 in
theorem tk_X8_fault : tr_mtok 152 tb_X8_fault = true := by decide +kernel
set_option maxRecDepth 100000 in
theorem tk_X8_keeps : tr_mtok 153 tb_X8_keeps = true := by decide +kernel
set_option maxRecDepth 100000 in
theorem tk_X8_isHop : tr_mtok 154 tb_X8_isHop = true := by decide +kernel
set_option maxRecDepth 100000 in
theorem tk_X8_isLink : tr_mtok 155 tb_X8_isLink = true := by decide +kernel
set_option maxRecDepth 100000 in
theorem tk_X8_send : tr_mtok 156 tb_X8_send = true := by decide +kernel
set_option maxRecDepth 100000 in
theorem tk_X8_forget : tr_mtok 157 tb_X8_forget = true := by decide +kernel
set_option maxRecDepth 100000 in
theorem tk_X8_link : tr_mtok 158 tb_X8_link = true := by decide +kernel
set_option maxRecDepth 100000 in
theorem tk_X8_route : tr_mtok 159 tb_X8_route = true := by decide +kernel
set_option maxRecDepth 100000 in
theorem tk_X8_maySet : tr_mtok 160 tb_X8_maySet = true := by decide +kernel
set_option maxRecDepth 100000 in
theorem tk_X8_set : tr_mtok 161 tb_X8_set = true := by decide +kernel
set_option maxRecDepth 100000 in
theorem tk_X8_undo : tr_mtok 162 tb_X8_undo = true := by decide +kernel
set_option maxRecDepth 100000 in
theorem tk_X8_chosenMany : tr_mtok 163 tb_X8_chosenMany = true := by decide +kernel
set_option maxRecDepth 100000 in
theorem tk_X8_counted : tr_mtok 164 tb_X8_counted = true := by decide +kernel
set_option maxRecDepth 100000 in
theorem tk_X8_clashesBy : tr_mtok 165 tb_X8_clashesBy = true := by decide +kernel
set_option maxRecDepth 100000 in
theorem tk_X8_told : tr_mtok 166 tb_X8_told = true := by decide +kernel
set_option maxRecDepth 100000 in
theorem tk_X8_linkTold : tr_mtok 167 tb_X8_linkTold = true := by decide +kernel
set_option maxRecDepth 100000 in
theorem tk_X8_routeTold : tr_mtok 168 tb_X8_routeTold = true := by decide +kernel
set_option maxRecDepth 100000 in
theorem tk_X8_isPacket : tr_mtok 169 tb_X8_isPacket = true := by decide +kernel
set_option maxRecDepth 100000 in
theorem tk_X8_packet : tr_mtok 170 tb_X8_packet = true := by decide +kernel
set_option maxRecDepth 100000 in
theorem tk_X8_trail : tr_mtok 171 tb_X8_trail = true := by decide +kernel
set_option maxRecDepth 100000 in
theorem tk_X8_laysReports : tr_mtok 172 tb_X8_laysReports = true := by decide +kernel
set_option maxRecDepth 100000 in
theorem tk_X8_reports : tr_mtok 173 tb_X8_reports = true := by decide +kernel
set_option maxRecDepth 100000 in
theorem tk_X8_label : tr_mtok 174 tb_X8_label = true := by decide +kernel
set_option maxRecDepth 100000 in
theorem tk_X8_joins : tr_mtok 175 tb_X8_joins = true := by decide +kernel
set_option maxRecDepth 100000 in
theorem tk_X8_takesSet : tr_mtok 177 tb_X8_takesSet = true := by decide +kernel
set_option maxRecDepth 100000 in
theorem tk_X8_isOver : tr_mtok 178 tb_X8_isOver = true := by decide +kernel
set_option maxRecDepth 100000 in
theorem tk_X8_jointsOf : tr_mtok 180 tb_X8_jointsOf = true := by decide +kernel
set_option maxRecDepth 100000 in
theorem tk_X8_isLabel : tr_mtok 181 tb_X8_isLabel = true := by decide +kernel
set_option maxRecDepth 100000 in
theorem tk_X8_joints : tr_mtok 182 tb_X8_joints = true := by decide +kernel
set_option maxRecDepth 100000 in
theorem tk_X8_longAt : tr_mtok 183 tb_X8_longAt = true := by decide +kernel
set_option maxRecDepth 100000 in
theorem tk_X8_lastHop : tr_mtok 184 tb_X8_lastHop = true := by decide +kernel
set_option maxRecDepth 100000 in
theorem tk_X8_walk : tr_mtok 185 tb_X8_walk = true := by decide +kernel
set_option maxRecDepth 100000 in
theorem tk_X8_walkAt : tr_mtok 186 tb_X8_walkAt = true := by decide +kernel
set_option maxRecDepth 100000 in
theorem tk_X8_isWalk : tr_mtok 187 tb_X8_isWalk = true := by decide +kernel
set_option maxRecDepth 100000 in
theorem tk_X8_isTrue : tr_mtok 188 tb_X8_isTrue = true := by decide +kernel
set_option maxRecDepth 100000 in
theorem tk_X8_isAlike : tr_mtok 189 tb_X8_isAlike = true := by decide +kernel
set_option maxRecDepth 100000 in
theorem tk_X8_joined : tr_mtok 190 tb_X8_joined = true := by decide +kernel
set_option maxRecDepth 100000 in
theorem tk_X8_common : tr_mtok 191 tb_X8_common = true := by decide +kernel
set_option maxRecDepth 100000 in
theorem tk_X8_part : tr_mtok 192 tb_X8_part = true := by decide +kernel
set_option maxRecDepth 100000 in
theorem tk_X8_counts : tr_mtok 193 tb_X8_counts = true := by decide +kernel
set_option maxRecDepth 100000 in
theorem tk_X8_reckoned : tr_mtok 194 tb_X8_reckoned = true := by decide +kernel
set_option maxRecDepth 100000 in
theorem tk_X8_estimate : tr_mtok 195 tb_X8_estimate = true := by decide +kernel
set_option maxRecDepth 100000 in
theorem tk_X8_matrix : tr_mtok 196 tb_X8_matrix = true := by decide +kernel
set_option maxRecDepth 100000 in
theorem tk_X8_fates : tr_mtok 197 tb_X8_fates = true := by decide +kernel
set_option maxRecDepth 100000 in
theorem tk_X8_leastLabels : tr_mtok 198 tb_X8_leastLabels = true := by decide +kernel
set_option maxRecDepth 100000 in
theorem tk_X8_unlike : tr_mtok 199 tb_X8_unlike = true := by decide +kernel
set_option maxRecDepth 100000 in
theorem tk_X8_clashes : tr_mtok 200 tb_X8_clashes = true := by decide +kernel
set_option maxRecDepth 100000 in
theorem tk_X8_bestKey : tr_mtok 201 tb_X8_bestKey = true := by decide +kernel
set_option maxRecDepth 100000 in
theorem tk_X8_unlikeBy : tr_mtok 202 tb_X8_unlikeBy = true := by decide +kernel
set_option maxRecDepth 100000 in
theorem tk_X8_bestMask : tr_mtok 203 tb_X8_bestMask = true := by decide +kernel
set_option maxRecDepth 100000 in
theorem tk_X8_print : tr_mtok 204 tb_X8_print = true := by decide +kernel
set_option maxRecDepth 100000 in
theorem tk_X8_status : tr_mtok 205 tb_X8_status = true := by decide +kernel
set_option maxRecDepth 100000 in
theorem tk_J7_fill_53178 : tr_mtok 206 tb_J7_fill_53178 = true := by decide +kernel
set_option maxRecDepth 100000 in
theorem tk_L_text : tr_mtok 207 tb_L_text = true := by decide +kernel
set_option maxRecDepth 100000 in
theorem tk_L_send : tr_mtok 208 tb_L_send = true := by decide +kernel
set_option maxRecDepth 100000 in
theorem tk_L_link : tr_mtok 209 tb_L_link = true := by decide +kernel
set_option maxRecDepth 100000 in
theorem tk_L_route : tr_mtok 210 tb_L_route = true := by decide +kernel
set_option maxRecDepth 100000 in
theorem tk_L_set : tr_mtok 211 tb_L_set = true := by decide +kernel
set_option maxRecDepth 100000 in
theorem tk_L_told : tr_mtok 212 tb_L_told = true := by decide +kernel
set_option maxRecDepth 100000 in
theorem tk_L_linkTold : tr_mtok 213 tb_L_linkTold = true := by decide +kernel
set_option maxRecDepth 100000 in
theorem tk_L_routeTold : tr_mtok 214 tb_L_routeTold = true := by decide +kernel
set_option maxRecDepth 100000 in
theorem tk_L_packet : tr_mtok 215 tb_L_packet = true := by decide +kernel
set_option maxRecDepth 100000 in
theorem tk_L_trail : tr_mtok 216 tb_L_trail = true := by decide +kernel
set_option maxRecDepth 100000 in
theorem tk_L_reports : tr_mtok 217 tb_L_reports = true := by decide +kernel
set_option maxRecDepth 100000 in
theorem tk_L_joints : tr_mtok 218 tb_L_joints = true := by decide +kernel
set_option maxRecDepth 100000 in
theorem tk_L_walk : tr_mtok 219 tb_L_walk = true := by decide +kernel
set_option maxRecDepth 100000 in
theorem tk_L_walkAt : tr_mtok 220 tb_L_walkAt = true := by decide +kernel
set_option maxRecDepth 100000 in
theorem tk_L_joined : tr_mtok 221 tb_L_joined = true := by decide +kernel
set_option maxRecDepth 100000 in
theorem tk_L_estimate : tr_mtok 222 tb_L_estimate = true := by decide +kernel
set_option maxRecDepth 100000 in
theorem tk_L_matrix : tr_mtok 223 tb_L_matrix = true := by decide +kernel
set_option maxRecDepth 100000 in
theorem tk_L_fates : tr_mtok 224 tb_L_fates = true := by decide +kernel
set_option maxRecDepth 100000 in
theorem tk_L_unlike : tr_mtok 225 tb_L_unlike = true := by decide +kernel
set_option maxRecDepth 100000 in
theorem tk_L_clashes : tr_mtok 226 tb_L_clashes = true := by decide +kernel
set_option maxRecDepth 100000 in
theorem tk_L_bestKey : tr_mtok 227 tb_L_bestKey = true := by decide +kernel
set_option maxRecDepth 100000 in
theorem tk_L_bestMask : tr_mtok 228 tb_L_bestMask = true := by decide +kernel
