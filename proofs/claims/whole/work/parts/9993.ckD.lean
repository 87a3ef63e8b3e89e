set_option maxRecDepth 100000 in
theorem ck281 : chkT 281 = true := by decide +kernel
