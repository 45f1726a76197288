set_option maxRecDepth 100000 in
theorem okl_11 : kb_L_law_11.all (okB km_L_law) = true := by decide +kernel
