set_option maxRecDepth 100000 in
theorem okl_1 : kb_L_law_1.all (okB km_L_law) = true := by decide +kernel
