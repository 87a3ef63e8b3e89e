/-! the law's rows of the check, 16 -/
set_option maxRecDepth 100000 in
theorem cs18 : chkS 281 2449 54 = true := by decide +kernel
