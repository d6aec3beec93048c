/-! decoding -/
set_option maxRecDepth 100000 in
theorem ckTX11_isAbove : sm_bT miX11_isAbove = true := by decide +kernel
set_option maxRecDepth 100000 in
theorem ckTX11_number : sm_bT miX11_number = true := by decide +kernel
set_option maxRecDepth 100000 in
theorem ckTX11_isTop : sm_bT miX11_isTop = true := by decide +kernel
set_option maxRecDepth 100000 in
theorem ckTX11_layers : sm_bT miX11_layers = true := by decide +kernel
set_option maxRecDepth 100000 in
theorem ckTX11_layer : sm_bT miX11_layer = true := by decide +kernel
set_option maxRecDepth 100000 in
theorem ckTX11_colourAt : sm_bT miX11_colourAt = true := by decide +kernel
set_option maxRecDepth 100000 in
theorem ckTX11_seenColour : sm_bT miX11_seenColour = true := by decide +kernel
set_option maxRecDepth 100000 in
theorem ckTX11_paint : sm_bT miX11_paint = true := by decide +kernel
set_option maxRecDepth 100000 in
theorem ckTX11_coloured : sm_bT miX11_coloured = true := by decide +kernel
set_option maxRecDepth 100000 in
theorem ckTX11_isAlike : sm_bT miX11_isAlike = true := by decide +kernel
set_option maxRecDepth 100000 in
theorem ckTX11_period : sm_bT miX11_period = true := by decide +kernel
set_option maxRecDepth 100000 in
theorem ckTX11_fewestOf : sm_bT miX11_fewestOf = true := by decide +kernel
set_option maxRecDepth 100000 in
theorem ckTX11_fewest : sm_bT miX11_fewest = true := by decide +kernel
set_option maxRecDepth 100000 in
theorem ckTX11_usedShafts : sm_bT miX11_usedShafts = true := by decide +kernel
set_option maxRecDepth 100000 in
theorem ckTX11_bits : sm_bT miX11_bits = true := by decide +kernel
set_option maxRecDepth 100000 in
theorem ckTX11_pegs : sm_bT miX11_pegs = true := by decide +kernel
set_option maxRecDepth 100000 in
theorem ckTX11_gather : sm_bT miX11_gather = true := by decide +kernel
set_option maxRecDepth 100000 in
theorem ckTX11_findCommons : sm_bT miX11_findCommons = true := by decide +kernel
set_option maxRecDepth 100000 in
theorem ckTX11_covers : sm_bT miX11_covers = true := by decide +kernel
set_option maxRecDepth 100000 in
theorem ckTX11_chooses : sm_bT miX11_chooses = true := by decide +kernel
set_option maxRecDepth 100000 in
theorem ckTX11_cover : sm_bT miX11_cover = true := by decide +kernel
set_option maxRecDepth 100000 in
theorem ckTX11_seen : sm_bT miX11_seen = true := by decide +kernel
set_option maxRecDepth 100000 in
theorem ckTX11_seenColumn : sm_bT miX11_seenColumn = true := by decide +kernel
set_option maxRecDepth 100000 in
theorem ckTX11_columnBy : sm_bT miX11_columnBy = true := by decide +kernel
set_option maxRecDepth 100000 in
theorem ckTX11_unlike : sm_bT miX11_unlike = true := by decide +kernel
set_option maxRecDepth 100000 in
theorem ckTX11_wrong : sm_bT miX11_wrong = true := by decide +kernel
set_option maxRecDepth 100000 in
theorem ckTX11_nearestOf : sm_bT miX11_nearestOf = true := by decide +kernel
set_option maxRecDepth 100000 in
theorem ckTX11_nearest : sm_bT miX11_nearest = true := by decide +kernel
set_option maxRecDepth 100000 in
theorem ckTX11_costOfEnds : sm_bT miX11_costOfEnds = true := by decide +kernel
set_option maxRecDepth 100000 in
theorem ckTX11_mend : sm_bT miX11_mend = true := by decide +kernel
set_option maxRecDepth 100000 in
theorem ckTX11_mended : sm_bT miX11_mended = true := by decide +kernel
set_option maxRecDepth 100000 in
theorem ckTX11_mendedShaft : sm_bT miX11_mendedShaft = true := by decide +kernel
set_option maxRecDepth 100000 in
theorem ckTX11_isMoved : sm_bT miX11_isMoved = true := by decide +kernel
set_option maxRecDepth 100000 in
theorem ckTX11_shifted : sm_bT miX11_shifted = true := by decide +kernel
set_option maxRecDepth 100000 in
theorem ckTX11_about : sm_bT miX11_about = true := by decide +kernel
set_option maxRecDepth 100000 in
theorem ckTJ6_numberOfTrailingZeros_0f7a4 : sm_bT miJ6_numberOfTrailingZeros_0f7a4 = true := by decide +kernel
set_option maxRecDepth 100000 in
theorem ckTJ6_bitCount_0f7a4 : sm_bT miJ6_bitCount_0f7a4 = true := by decide +kernel
set_option maxRecDepth 100000 in
theorem ckTJ13_numberOfTrailingZeros_95d88 : sm_bT miJ13_numberOfTrailingZeros_95d88 = true := by decide +kernel
set_option maxRecDepth 100000 in
theorem ckTJ13_bitCount_95d88 : sm_bT miJ13_bitCount_95d88 = true := by decide +kernel
set_option maxRecDepth 100000 in
theorem ckTJ7_fill_d0a16 : sm_bT miJ7_fill_d0a16 = true := by decide +kernel
set_option maxRecDepth 100000 in
theorem ckTJ7_fill_53178 : sm_bT miJ7_fill_53178 = true := by decide +kernel
set_option maxRecDepth 100000 in
theorem ckTL_cell : sm_bT miL_cell = true := by decide +kernel
