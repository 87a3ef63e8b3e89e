/-! the law's rows of the check, 2 -/
set_option maxRecDepth 100000 in
theorem cs4 : chkS 281 1000 250 = true := by decide +kernel
