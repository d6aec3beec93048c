/-! decoding -/
set_option maxRecDepth 100000 in
theorem ckTX0_init : sm_bT miX0_init = true := by decide +kernel
set_option maxRecDepth 100000 in
theorem ckTX0_weave : sm_bT miX0_weave = true := by decide +kernel
set_option maxRecDepth 100000 in
theorem ckTX0_picksOf : sm_bT miX0_picksOf = true := by decide +kernel
set_option maxRecDepth 100000 in
theorem ckTX0_press : sm_bT miX0_press = true := by decide +kernel
set_option maxRecDepth 100000 in
theorem ckTX0_raise : sm_bT miX0_raise = true := by decide +kernel
set_option maxRecDepth 100000 in
theorem ckTX0_hang : sm_bT miX0_hang = true := by decide +kernel
set_option maxRecDepth 100000 in
theorem ckTX0_cross : sm_bT miX0_cross = true := by decide +kernel
set_option maxRecDepth 100000 in
theorem ckTX1_init : sm_bT miX1_init = true := by decide +kernel
set_option maxRecDepth 100000 in
theorem ckTX1_find : sm_bT miX1_find = true := by decide +kernel
set_option maxRecDepth 100000 in
theorem ckTX1_tieAt : sm_bT miX1_tieAt = true := by decide +kernel
set_option maxRecDepth 100000 in
theorem ckTX1_collectLifts : sm_bT miX1_collectLifts = true := by decide +kernel
set_option maxRecDepth 100000 in
theorem ckTX1_isIn : sm_bT miX1_isIn = true := by decide +kernel
set_option maxRecDepth 100000 in
theorem ckTX1_collectTies : sm_bT miX1_collectTies = true := by decide +kernel
set_option maxRecDepth 100000 in
theorem ckTX1_insertTie : sm_bT miX1_insertTie = true := by decide +kernel
set_option maxRecDepth 100000 in
theorem ckTX1_markGifts : sm_bT miX1_markGifts = true := by decide +kernel
set_option maxRecDepth 100000 in
theorem ckTX1_gatherGifts : sm_bT miX1_gatherGifts = true := by decide +kernel
set_option maxRecDepth 100000 in
theorem ckTX1_sortShafts : sm_bT miX1_sortShafts = true := by decide +kernel
set_option maxRecDepth 100000 in
theorem ckTX1_markGift : sm_bT miX1_markGift = true := by decide +kernel
set_option maxRecDepth 100000 in
theorem ckTX1_findLeast : sm_bT miX1_findLeast = true := by decide +kernel
set_option maxRecDepth 100000 in
theorem ckTX1_needsMore : sm_bT miX1_needsMore = true := by decide +kernel
set_option maxRecDepth 100000 in
theorem ckTX1_choose : sm_bT miX1_choose = true := by decide +kernel
set_option maxRecDepth 100000 in
theorem ckTX2_init : sm_bT miX2_init = true := by decide +kernel
set_option maxRecDepth 100000 in
theorem ckTX2_sortPart : sm_bT miX2_sortPart = true := by decide +kernel
set_option maxRecDepth 100000 in
theorem ckTX2_numberOf : sm_bT miX2_numberOf = true := by decide +kernel
set_option maxRecDepth 100000 in
theorem ckTX2_relate : sm_bT miX2_relate = true := by decide +kernel
set_option maxRecDepth 100000 in
theorem ckTX2_followChains : sm_bT miX2_followChains = true := by decide +kernel
set_option maxRecDepth 100000 in
theorem ckTX2_followThrough : sm_bT miX2_followThrough = true := by decide +kernel
set_option maxRecDepth 100000 in
theorem ckTX2_numberAll : sm_bT miX2_numberAll = true := by decide +kernel
set_option maxRecDepth 100000 in
theorem ckTX2_lowestOnTop : sm_bT miX2_lowestOnTop = true := by decide +kernel
set_option maxRecDepth 100000 in
theorem ckTX2_isOnTop : sm_bT miX2_isOnTop = true := by decide +kernel
set_option maxRecDepth 100000 in
theorem ckTX2_numberLayerOf : sm_bT miX2_numberLayerOf = true := by decide +kernel
set_option maxRecDepth 100000 in
theorem ckTX3_init : sm_bT miX3_init = true := by decide +kernel
set_option maxRecDepth 100000 in
theorem ckTX3_valueOf : sm_bT miX3_valueOf = true := by decide +kernel
set_option maxRecDepth 100000 in
theorem ckTX3_timeOf : sm_bT miX3_timeOf = true := by decide +kernel
set_option maxRecDepth 100000 in
theorem ckTX3_tellOne : sm_bT miX3_tellOne = true := by decide +kernel
set_option maxRecDepth 100000 in
theorem ckTX3_dropStaged : sm_bT miX3_dropStaged = true := by decide +kernel
set_option maxRecDepth 100000 in
theorem ckTX3_stage : sm_bT miX3_stage = true := by decide +kernel
set_option maxRecDepth 100000 in
theorem ckTX3_takeStaged : sm_bT miX3_takeStaged = true := by decide +kernel
set_option maxRecDepth 100000 in
theorem ckTX3_lookAt : sm_bT miX3_lookAt = true := by decide +kernel
set_option maxRecDepth 100000 in
theorem ckTX3_forget : sm_bT miX3_forget = true := by decide +kernel
set_option maxRecDepth 100000 in
theorem ckTX3_replay : sm_bT miX3_replay = true := by decide +kernel
set_option maxRecDepth 100000 in
theorem ckTX4_init : sm_bT miX4_init = true := by decide +kernel
set_option maxRecDepth 100000 in
theorem ckTX4_find : sm_bT miX4_find = true := by decide +kernel
set_option maxRecDepth 100000 in
theorem ckTX4_fitEnds : sm_bT miX4_fitEnds = true := by decide +kernel
set_option maxRecDepth 100000 in
theorem ckTX4_weighThreading : sm_bT miX4_weighThreading = true := by decide +kernel
set_option maxRecDepth 100000 in
theorem ckTX4_weighTie : sm_bT miX4_weighTie = true := by decide +kernel
set_option maxRecDepth 100000 in
theorem ckTX4_picksAfter : sm_bT miX4_picksAfter = true := by decide +kernel
set_option maxRecDepth 100000 in
theorem ckTX4_settle : sm_bT miX4_settle = true := by decide +kernel
set_option maxRecDepth 100000 in
theorem ckTX4_fits : sm_bT miX4_fits = true := by decide +kernel
set_option maxRecDepth 100000 in
theorem ckTX4_firstFitting : sm_bT miX4_firstFitting = true := by decide +kernel
set_option maxRecDepth 100000 in
theorem ckTX5_init : sm_bT miX5_init = true := by decide +kernel
set_option maxRecDepth 100000 in
theorem ckTX5_showCells : sm_bT miX5_showCells = true := by decide +kernel
set_option maxRecDepth 100000 in
theorem ckTX5_showColours : sm_bT miX5_showColours = true := by decide +kernel
set_option maxRecDepth 100000 in
theorem ckTX5_likeAlongEnds : sm_bT miX5_likeAlongEnds = true := by decide +kernel
set_option maxRecDepth 100000 in
theorem ckTX5_likeAlongPicks : sm_bT miX5_likeAlongPicks = true := by decide +kernel
set_option maxRecDepth 100000 in
theorem ckTX5_rowAt : sm_bT miX5_rowAt = true := by decide +kernel
set_option maxRecDepth 100000 in
theorem ckTX6_init : sm_bT miX6_init = true := by decide +kernel
set_option maxRecDepth 100000 in
theorem ckTX6_readTape : sm_bT miX6_readTape = true := by decide +kernel
set_option maxRecDepth 100000 in
theorem ckTX6_endWhatCannotGoOn : sm_bT miX6_endWhatCannotGoOn = true := by decide +kernel
set_option maxRecDepth 100000 in
theorem ckTX6_fail : sm_bT miX6_fail = true := by decide +kernel
set_option maxRecDepth 100000 in
theorem ckTX6_failAt : sm_bT miX6_failAt = true := by decide +kernel
set_option maxRecDepth 100000 in
theorem ckTX6_step : sm_bT miX6_step = true := by decide +kernel
set_option maxRecDepth 100000 in
theorem ckTX6_startClause : sm_bT miX6_startClause = true := by decide +kernel
set_option maxRecDepth 100000 in
theorem ckTX6_nameBlock : sm_bT miX6_nameBlock = true := by decide +kernel
set_option maxRecDepth 100000 in
theorem ckTX6_nameTreadle : sm_bT miX6_nameTreadle = true := by decide +kernel
set_option maxRecDepth 100000 in
theorem ckTX6_isNumber : sm_bT miX6_isNumber = true := by decide +kernel
set_option maxRecDepth 100000 in
theorem ckTX6_openFirstRow : sm_bT miX6_openFirstRow = true := by decide +kernel
set_option maxRecDepth 100000 in
theorem ckTX6_startOne : sm_bT miX6_startOne = true := by decide +kernel
