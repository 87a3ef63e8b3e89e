/-! the law's rows of the check, 11 -/
set_option maxRecDepth 100000 in
theorem cs13 : chkS 281 2179 54 = true := by decide +kernel
