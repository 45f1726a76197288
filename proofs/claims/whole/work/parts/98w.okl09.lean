set_option maxRecDepth 100000 in
theorem okl_9 : kb_L_law_9.all (okB km_L_law) = true := by decide +kernel
