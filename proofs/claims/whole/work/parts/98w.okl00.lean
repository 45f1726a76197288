set_option maxRecDepth 100000 in
theorem okl_0 : kb_L_law_0.all (okB km_L_law) = true := by decide +kernel
