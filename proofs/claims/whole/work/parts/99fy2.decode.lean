/-! decoding of a long method, in pieces -/
set_option maxRecDepth 100000 in
theorem ckTL_law_4 : tbL_law_4.all (sm_bT1 cL_law) = true := by decide +kernel
set_option maxRecDepth 100000 in
theorem ckTL_law_5 : tbL_law_5.all (sm_bT1 cL_law) = true := by decide +kernel
set_option maxRecDepth 100000 in
theorem ckTL_law_6 : tbL_law_6.all (sm_bT1 cL_law) = true := by decide +kernel
set_option maxRecDepth 100000 in
theorem ckTL_law_7 : tbL_law_7.all (sm_bT1 cL_law) = true := by decide +kernel
