/-! the law's rows of the check, 12 -/
set_option maxRecDepth 100000 in
theorem cs14 : chkS 281 2233 54 = true := by decide +kernel
