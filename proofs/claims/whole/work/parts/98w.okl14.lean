set_option maxRecDepth 100000 in
theorem okl_14 : kb_L_law_14.all (okB km_L_law) = true := by decide +kernel
