set_option maxRecDepth 100000 in
theorem okl_15 : kb_L_law_15.all (okB km_L_law) = true := by decide +kernel
