set_option maxRecDepth 100000 in
theorem okl_10 : kb_L_law_10.all (okB km_L_law) = true := by decide +kernel
