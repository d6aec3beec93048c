/-! decoding -/
set_option maxRecDepth 100000 in
theorem ckTL_law : sm_bT miL_law = true := by decide +kernel
