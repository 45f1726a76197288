set_option maxRecDepth 100000 in
theorem okl_7 : kb_L_law_7.all (okB km_L_law) = true := by decide +kernel
