set_option maxRecDepth 100000 in
theorem okl_8 : kb_L_law_8.all (okB km_L_law) = true := by decide +kernel
