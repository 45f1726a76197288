set_option maxRecDepth 100000 in
theorem okl_12 : kb_L_law_12.all (okB km_L_law) = true := by decide +kernel
