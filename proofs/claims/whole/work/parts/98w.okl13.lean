set_option maxRecDepth 100000 in
theorem okl_13 : kb_L_law_13.all (okB km_L_law) = true := by decide +kernel
