set_option maxRecDepth 100000 in
theorem okl_2 : kb_L_law_2.all (okB km_L_law) = true := by decide +kernel
