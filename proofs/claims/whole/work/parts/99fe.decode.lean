/-! decoding -/
set_option maxRecDepth 100000 in
theorem ckTX11_init : sm_bT miX11_init = true := by decide +kernel
set_option maxRecDepth 100000 in
theorem ckTX11_isIn : sm_bT miX11_isIn = true := by decide +kernel
set_option maxRecDepth 100000 in
theorem ckTX11_isEnd : sm_bT miX11_isEnd = true := by decide +kernel
set_option maxRecDepth 100000 in
theorem ckTX11_isPick : sm_bT miX11_isPick = true := by decide +kernel
set_option maxRecDepth 100000 in
theorem ckTX11_enter : sm_bT miX11_enter = true := by decide +kernel
set_option maxRecDepth 100000 in
theorem ckTX11_telling : sm_bT miX11_telling = true := by decide +kernel
set_option maxRecDepth 100000 in
theorem ckTX11_passes : sm_bT miX11_passes = true := by decide +kernel
set_option maxRecDepth 100000 in
theorem ckTX11_thread : sm_bT miX11_thread = true := by decide +kernel
set_option maxRecDepth 100000 in
theorem ckTX11_tie : sm_bT miX11_tie = true := by decide +kernel
set_option maxRecDepth 100000 in
theorem ckTX11_tread : sm_bT miX11_tread = true := by decide +kernel
set_option maxRecDepth 100000 in
theorem ckTX11_colour : sm_bT miX11_colour = true := by decide +kernel
set_option maxRecDepth 100000 in
theorem ckTX11_entryOf : sm_bT miX11_entryOf = true := by decide +kernel
set_option maxRecDepth 100000 in
theorem ckTX11_valueOf : sm_bT miX11_valueOf = true := by decide +kernel
set_option maxRecDepth 100000 in
theorem ckTX11_look : sm_bT miX11_look = true := by decide +kernel
set_option maxRecDepth 100000 in
theorem ckTX11_draw : sm_bT miX11_draw = true := by decide +kernel
set_option maxRecDepth 100000 in
theorem ckTX11_lifts : sm_bT miX11_lifts = true := by decide +kernel
set_option maxRecDepth 100000 in
theorem ckTX11_shaft : sm_bT miX11_shaft = true := by decide +kernel
set_option maxRecDepth 100000 in
theorem ckTX11_lift : sm_bT miX11_lift = true := by decide +kernel
set_option maxRecDepth 100000 in
theorem ckTX11_row : sm_bT miX11_row = true := by decide +kernel
set_option maxRecDepth 100000 in
theorem ckTX11_lead : sm_bT miX11_lead = true := by decide +kernel
set_option maxRecDepth 100000 in
theorem ckTX11_four : sm_bT miX11_four = true := by decide +kernel
set_option maxRecDepth 100000 in
theorem ckTX11_feed : sm_bT miX11_feed = true := by decide +kernel
set_option maxRecDepth 100000 in
theorem ckTX11_end : sm_bT miX11_end = true := by decide +kernel
set_option maxRecDepth 100000 in
theorem ckTX11_see : sm_bT miX11_see = true := by decide +kernel
set_option maxRecDepth 100000 in
theorem ckTX11_isLetter : sm_bT miX11_isLetter = true := by decide +kernel
set_option maxRecDepth 100000 in
theorem ckTX11_isDigit : sm_bT miX11_isDigit = true := by decide +kernel
set_option maxRecDepth 100000 in
theorem ckTX11_pack : sm_bT miX11_pack = true := by decide +kernel
set_option maxRecDepth 100000 in
theorem ckTX11_n : sm_bT miX11_n = true := by decide +kernel
set_option maxRecDepth 100000 in
theorem ckTX11_w : sm_bT miX11_w = true := by decide +kernel
set_option maxRecDepth 100000 in
theorem ckTX11_wordOf : sm_bT miX11_wordOf = true := by decide +kernel
set_option maxRecDepth 100000 in
theorem ckTX11_nextToken : sm_bT miX11_nextToken = true := by decide +kernel
set_option maxRecDepth 100000 in
theorem ckTX11_fails : sm_bT miX11_fails = true := by decide +kernel
set_option maxRecDepth 100000 in
theorem ckTX11_many : sm_bT miX11_many = true := by decide +kernel
set_option maxRecDepth 100000 in
theorem ckTX11_push : sm_bT miX11_push = true := by decide +kernel
set_option maxRecDepth 100000 in
theorem ckTX11_plainOne : sm_bT miX11_plainOne = true := by decide +kernel
set_option maxRecDepth 100000 in
theorem ckTX11_opens : sm_bT miX11_opens = true := by decide +kernel
set_option maxRecDepth 100000 in
theorem ckTX11_closes : sm_bT miX11_closes = true := by decide +kernel
set_option maxRecDepth 100000 in
theorem ckTX11_times : sm_bT miX11_times = true := by decide +kernel
set_option maxRecDepth 100000 in
theorem ckTX11_readRow : sm_bT miX11_readRow = true := by decide +kernel
set_option maxRecDepth 100000 in
theorem ckTX11_block : sm_bT miX11_block = true := by decide +kernel
set_option maxRecDepth 100000 in
theorem ckTX11_bring : sm_bT miX11_bring = true := by decide +kernel
set_option maxRecDepth 100000 in
theorem ckTX11_rowClause : sm_bT miX11_rowClause = true := by decide +kernel
set_option maxRecDepth 100000 in
theorem ckTX11_readText : sm_bT miX11_readText = true := by decide +kernel
set_option maxRecDepth 100000 in
theorem ckTX11_text : sm_bT miX11_text = true := by decide +kernel
set_option maxRecDepth 100000 in
theorem ckTX11_fault : sm_bT miX11_fault = true := by decide +kernel
set_option maxRecDepth 100000 in
theorem ckTX11_runsOf : sm_bT miX11_runsOf = true := by decide +kernel
set_option maxRecDepth 100000 in
theorem ckTX11_findRuns : sm_bT miX11_findRuns = true := by decide +kernel
set_option maxRecDepth 100000 in
theorem ckTX11_longest : sm_bT miX11_longest = true := by decide +kernel
set_option maxRecDepth 100000 in
theorem ckTX11_floats : sm_bT miX11_floats = true := by decide +kernel
set_option maxRecDepth 100000 in
theorem ckTX11_isPart : sm_bT miX11_isPart = true := by decide +kernel
set_option maxRecDepth 100000 in
theorem ckTX11_span : sm_bT miX11_span = true := by decide +kernel
set_option maxRecDepth 100000 in
theorem ckTX11_reach : sm_bT miX11_reach = true := by decide +kernel
set_option maxRecDepth 100000 in
theorem ckTX11_isStrand : sm_bT miX11_isStrand = true := by decide +kernel
