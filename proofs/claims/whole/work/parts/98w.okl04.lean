set_option maxRecDepth 100000 in
theorem okl_4 : kb_L_law_4.all (okB km_L_law) = true := by decide +kernel
