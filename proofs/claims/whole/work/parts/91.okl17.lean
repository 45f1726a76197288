set_option maxRecDepth 100000 in
theorem okl_17 : kb_L_law_17.all (okB km_L_law) = true := by decide +kernel
