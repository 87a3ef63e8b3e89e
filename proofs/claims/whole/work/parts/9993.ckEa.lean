/-! the law's rows of the check, 13 -/
set_option maxRecDepth 100000 in
theorem cs15 : chkS 281 2287 54 = true := by decide +kernel
