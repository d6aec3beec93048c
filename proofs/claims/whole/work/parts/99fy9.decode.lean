/-! decoding of a long method, in pieces -/
set_option maxRecDepth 100000 in
theorem ckTL_law_12 : tbL_law_12.all (sm_bT1 cL_law) = true := by decide +kernel
set_option maxRecDepth 100000 in
theorem ckTL_law_13 : tbL_law_13.all (sm_bT1 cL_law) = true := by decide +kernel
set_option maxRecDepth 100000 in
theorem ckTL_law_14 : tbL_law_14.all (sm_bT1 cL_law) = true := by decide +kernel
theorem ckTL_law : sm_bT miL_law = true := sm_bT_app ckTL_law_0 (sm_bT_app ckTL_law_1 (sm_bT_app ckTL_law_2 (sm_bT_app ckTL_law_3 (sm_bT_app ckTL_law_4 (sm_bT_app ckTL_law_5 (sm_bT_app ckTL_law_6 (sm_bT_app ckTL_law_7 (sm_bT_app ckTL_law_8 (sm_bT_app ckTL_law_9 (sm_bT_app ckTL_law_10 (sm_bT_app ckTL_law_11 (sm_bT_app ckTL_law_12 (sm_bT_app ckTL_law_13 (ckTL_law_14))))))))))))))
