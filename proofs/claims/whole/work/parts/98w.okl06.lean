set_option maxRecDepth 100000 in
theorem okl_6 : kb_L_law_6.all (okB km_L_law) = true := by decide +kernel
