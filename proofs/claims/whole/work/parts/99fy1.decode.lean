/-! decoding of a long method, in pieces -/
set_option maxRecDepth 100000 in
theorem ckTL_law_0 : tbL_law_0.all (sm_bT1 cL_law) = true := by decide +kernel
set_option maxRecDepth 100000 in
theorem ckTL_law_1 : tbL_law_1.all (sm_bT1 cL_law) = true := by decide +kernel
set_option maxRecDepth 100000 in
theorem ckTL_law_2 : tbL_law_2.all (sm_bT1 cL_law) = true := by decide +kernel
set_option maxRecDepth 100000 in
theorem ckTL_law_3 : tbL_law_3.all (sm_bT1 cL_law) = true := by decide +kernel
