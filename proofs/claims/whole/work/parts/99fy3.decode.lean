/-! decoding of a long method, in pieces -/
set_option maxRecDepth 100000 in
theorem ckTL_law_8 : tbL_law_8.all (sm_bT1 cL_law) = true := by decide +kernel
set_option maxRecDepth 100000 in
theorem ckTL_law_9 : tbL_law_9.all (sm_bT1 cL_law) = true := by decide +kernel
set_option maxRecDepth 100000 in
theorem ckTL_law_10 : tbL_law_10.all (sm_bT1 cL_law) = true := by decide +kernel
set_option maxRecDepth 100000 in
theorem ckTL_law_11 : tbL_law_11.all (sm_bT1 cL_law) = true := by decide +kernel
