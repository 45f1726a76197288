set_option maxRecDepth 100000 in
theorem okl_16 : kb_L_law_16.all (okB km_L_law) = true := by decide +kernel
