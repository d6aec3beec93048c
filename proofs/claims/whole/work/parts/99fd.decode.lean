/-! decoding -/
set_option maxRecDepth 100000 in
theorem ckTX6_holdNumber : sm_bT miX6_holdNumber = true := by decide +kernel
set_option maxRecDepth 100000 in
theorem ckTX6_endNumber : sm_bT miX6_endNumber = true := by decide +kernel
set_option maxRecDepth 100000 in
theorem ckTX6_endRange : sm_bT miX6_endRange = true := by decide +kernel
set_option maxRecDepth 100000 in
theorem ckTX6_addBlock : sm_bT miX6_addBlock = true := by decide +kernel
set_option maxRecDepth 100000 in
theorem ckTX6_nameSum : sm_bT miX6_nameSum = true := by decide +kernel
set_option maxRecDepth 100000 in
theorem ckTX6_openBracket : sm_bT miX6_openBracket = true := by decide +kernel
set_option maxRecDepth 100000 in
theorem ckTX6_closeBracket : sm_bT miX6_closeBracket = true := by decide +kernel
set_option maxRecDepth 100000 in
theorem ckTX6_turnBack : sm_bT miX6_turnBack = true := by decide +kernel
set_option maxRecDepth 100000 in
theorem ckTX6_raiseNumbers : sm_bT miX6_raiseNumbers = true := by decide +kernel
set_option maxRecDepth 100000 in
theorem ckTX6_copyItem : sm_bT miX6_copyItem = true := by decide +kernel
set_option maxRecDepth 100000 in
theorem ckTX6_goOnBehindItem : sm_bT miX6_goOnBehindItem = true := by decide +kernel
set_option maxRecDepth 100000 in
theorem ckTX6_endClause : sm_bT miX6_endClause = true := by decide +kernel
set_option maxRecDepth 100000 in
theorem ckTX6_keepBlock : sm_bT miX6_keepBlock = true := by decide +kernel
set_option maxRecDepth 100000 in
theorem ckTX6_stageAlong : sm_bT miX6_stageAlong = true := by decide +kernel
set_option maxRecDepth 100000 in
theorem ckTX6_stageTie : sm_bT miX6_stageTie = true := by decide +kernel
set_option maxRecDepth 100000 in
theorem ckTX6_openRow : sm_bT miX6_openRow = true := by decide +kernel
set_option maxRecDepth 100000 in
theorem ckTX6_hasRoom : sm_bT miX6_hasRoom = true := by decide +kernel
set_option maxRecDepth 100000 in
theorem ckTX6_add : sm_bT miX6_add = true := by decide +kernel
set_option maxRecDepth 100000 in
theorem ckTX6_numberAt : sm_bT miX6_numberAt = true := by decide +kernel
set_option maxRecDepth 100000 in
theorem ckTX6_put : sm_bT miX6_put = true := by decide +kernel
set_option maxRecDepth 100000 in
theorem ckTX6_blockSize : sm_bT miX6_blockSize = true := by decide +kernel
set_option maxRecDepth 100000 in
theorem ckTX6_blockNumber : sm_bT miX6_blockNumber = true := by decide +kernel
set_option maxRecDepth 100000 in
theorem ckTX7_init : sm_bT miX7_init = true := by decide +kernel
set_option maxRecDepth 100000 in
theorem ckTX7_countFloats : sm_bT miX7_countFloats = true := by decide +kernel
set_option maxRecDepth 100000 in
theorem ckTX7_cutOpen : sm_bT miX7_cutOpen = true := by decide +kernel
set_option maxRecDepth 100000 in
theorem ckTX7_countLine : sm_bT miX7_countLine = true := by decide +kernel
set_option maxRecDepth 100000 in
theorem ckTX7_longestOne : sm_bT miX7_longestOne = true := by decide +kernel
set_option maxRecDepth 100000 in
theorem ckTX7_longerThan : sm_bT miX7_longerThan = true := by decide +kernel
set_option maxRecDepth 100000 in
theorem ckTX8_init : sm_bT miX8_init = true := by decide +kernel
set_option maxRecDepth 100000 in
theorem ckTX8_noteRow : sm_bT miX8_noteRow = true := by decide +kernel
set_option maxRecDepth 100000 in
theorem ckTX8_endsLike : sm_bT miX8_endsLike = true := by decide +kernel
set_option maxRecDepth 100000 in
theorem ckTX8_isMoved : sm_bT miX8_isMoved = true := by decide +kernel
set_option maxRecDepth 100000 in
theorem ckTX8_wrapped : sm_bT miX8_wrapped = true := by decide +kernel
set_option maxRecDepth 100000 in
theorem ckTX8_rowAt : sm_bT miX8_rowAt = true := by decide +kernel
set_option maxRecDepth 100000 in
theorem ckTX9_init : sm_bT miX9_init = true := by decide +kernel
set_option maxRecDepth 100000 in
theorem ckTX9_appendWord : sm_bT miX9_appendWord = true := by decide +kernel
set_option maxRecDepth 100000 in
theorem ckTX9_rewind : sm_bT miX9_rewind = true := by decide +kernel
set_option maxRecDepth 100000 in
theorem ckTX9_advance : sm_bT miX9_advance = true := by decide +kernel
set_option maxRecDepth 100000 in
theorem ckTX9_byteAt : sm_bT miX9_byteAt = true := by decide +kernel
set_option maxRecDepth 100000 in
theorem ckTX9_readNumber : sm_bT miX9_readNumber = true := by decide +kernel
set_option maxRecDepth 100000 in
theorem ckTX9_readWord : sm_bT miX9_readWord = true := by decide +kernel
set_option maxRecDepth 100000 in
theorem ckTX9_kindOfWord : sm_bT miX9_kindOfWord = true := by decide +kernel
set_option maxRecDepth 100000 in
theorem ckTX9_isWord : sm_bT miX9_isWord = true := by decide +kernel
set_option maxRecDepth 100000 in
theorem ckTX9_isBlank : sm_bT miX9_isBlank = true := by decide +kernel
set_option maxRecDepth 100000 in
theorem ckTX9_isDigit : sm_bT miX9_isDigit = true := by decide +kernel
set_option maxRecDepth 100000 in
theorem ckTX9_isAlphabetic : sm_bT miX9_isAlphabetic = true := by decide +kernel
set_option maxRecDepth 100000 in
theorem ckTX9_isSign : sm_bT miX9_isSign = true := by decide +kernel
set_option maxRecDepth 100000 in
theorem ckTX10_init : sm_bT miX10_init = true := by decide +kernel
set_option maxRecDepth 100000 in
theorem ckTX10_thread : sm_bT miX10_thread = true := by decide +kernel
set_option maxRecDepth 100000 in
theorem ckTX10_tie : sm_bT miX10_tie = true := by decide +kernel
set_option maxRecDepth 100000 in
theorem ckTX10_tread : sm_bT miX10_tread = true := by decide +kernel
set_option maxRecDepth 100000 in
theorem ckTX10_colour : sm_bT miX10_colour = true := by decide +kernel
set_option maxRecDepth 100000 in
theorem ckTX10_feed : sm_bT miX10_feed = true := by decide +kernel
set_option maxRecDepth 100000 in
theorem ckTX10_end : sm_bT miX10_end = true := by decide +kernel
set_option maxRecDepth 100000 in
theorem ckTX10_text : sm_bT miX10_text = true := by decide +kernel
set_option maxRecDepth 100000 in
theorem ckTX10_fault : sm_bT miX10_fault = true := by decide +kernel
set_option maxRecDepth 100000 in
theorem ckTX10_look : sm_bT miX10_look = true := by decide +kernel
set_option maxRecDepth 100000 in
theorem ckTX10_shaft : sm_bT miX10_shaft = true := by decide +kernel
set_option maxRecDepth 100000 in
theorem ckTX10_lift : sm_bT miX10_lift = true := by decide +kernel
set_option maxRecDepth 100000 in
theorem ckTX10_row : sm_bT miX10_row = true := by decide +kernel
set_option maxRecDepth 100000 in
theorem ckTX10_lead : sm_bT miX10_lead = true := by decide +kernel
set_option maxRecDepth 100000 in
theorem ckTX10_longest : sm_bT miX10_longest = true := by decide +kernel
set_option maxRecDepth 100000 in
theorem ckTX10_floats : sm_bT miX10_floats = true := by decide +kernel
set_option maxRecDepth 100000 in
theorem ckTX10_layers : sm_bT miX10_layers = true := by decide +kernel
set_option maxRecDepth 100000 in
theorem ckTX10_layer : sm_bT miX10_layer = true := by decide +kernel
set_option maxRecDepth 100000 in
theorem ckTX10_seenColour : sm_bT miX10_seenColour = true := by decide +kernel
set_option maxRecDepth 100000 in
theorem ckTX10_coloured : sm_bT miX10_coloured = true := by decide +kernel
set_option maxRecDepth 100000 in
theorem ckTX10_period : sm_bT miX10_period = true := by decide +kernel
set_option maxRecDepth 100000 in
theorem ckTX10_fewest : sm_bT miX10_fewest = true := by decide +kernel
set_option maxRecDepth 100000 in
theorem ckTX10_pegs : sm_bT miX10_pegs = true := by decide +kernel
set_option maxRecDepth 100000 in
theorem ckTX10_cover : sm_bT miX10_cover = true := by decide +kernel
set_option maxRecDepth 100000 in
theorem ckTX10_seen : sm_bT miX10_seen = true := by decide +kernel
set_option maxRecDepth 100000 in
theorem ckTX10_wrong : sm_bT miX10_wrong = true := by decide +kernel
set_option maxRecDepth 100000 in
theorem ckTX10_nearest : sm_bT miX10_nearest = true := by decide +kernel
set_option maxRecDepth 100000 in
theorem ckTX10_mended : sm_bT miX10_mended = true := by decide +kernel
set_option maxRecDepth 100000 in
theorem ckTX10_mendedShaft : sm_bT miX10_mendedShaft = true := by decide +kernel
set_option maxRecDepth 100000 in
theorem ckTX10_shifted : sm_bT miX10_shifted = true := by decide +kernel
set_option maxRecDepth 100000 in
theorem ckTX10_about : sm_bT miX10_about = true := by decide +kernel
set_option maxRecDepth 100000 in
theorem ckTX10_isEnd : sm_bT miX10_isEnd = true := by decide +kernel
set_option maxRecDepth 100000 in
theorem ckTX10_isPick : sm_bT miX10_isPick = true := by decide +kernel
set_option maxRecDepth 100000 in
theorem ckTX10_isPart : sm_bT miX10_isPart = true := by decide +kernel
set_option maxRecDepth 100000 in
theorem ckTX10_isColour : sm_bT miX10_isColour = true := by decide +kernel
set_option maxRecDepth 100000 in
theorem ckTX10_has : sm_bT miX10_has = true := by decide +kernel
set_option maxRecDepth 100000 in
theorem ckTX10_firstBits : sm_bT miX10_firstBits = true := by decide +kernel
set_option maxRecDepth 100000 in
theorem ckTX10_moved : sm_bT miX10_moved = true := by decide +kernel
set_option maxRecDepth 100000 in
theorem ckTX10_lowestTreadle : sm_bT miX10_lowestTreadle = true := by decide +kernel
set_option maxRecDepth 100000 in
theorem ckTX10_endsOfColour : sm_bT miX10_endsOfColour = true := by decide +kernel
set_option maxRecDepth 100000 in
theorem ckTX10_unlikeLines : sm_bT miX10_unlikeLines = true := by decide +kernel
set_option maxRecDepth 100000 in
theorem ckTX10_unlikePicks : sm_bT miX10_unlikePicks = true := by decide +kernel
set_option maxRecDepth 100000 in
theorem ckTX10_nearestShaft : sm_bT miX10_nearestShaft = true := by decide +kernel
set_option maxRecDepth 100000 in
theorem ckTX10_cellsUp : sm_bT miX10_cellsUp = true := by decide +kernel
set_option maxRecDepth 100000 in
theorem ckTX10_countCells : sm_bT miX10_countCells = true := by decide +kernel
set_option maxRecDepth 100000 in
theorem ckTX10_firstMixedPick : sm_bT miX10_firstMixedPick = true := by decide +kernel
set_option maxRecDepth 100000 in
theorem ckTX10_threadedEnds : sm_bT miX10_threadedEnds = true := by decide +kernel
