set_option maxRecDepth 100000 in
theorem okl_5 : kb_L_law_5.all (okB km_L_law) = true := by decide +kernel
