/-! decoding -/
