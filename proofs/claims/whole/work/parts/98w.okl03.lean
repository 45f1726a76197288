set_option maxRecDepth 100000 in
theorem okl_3 : kb_L_law_3.all (okB km_L_law) = true := by decide +kernel
