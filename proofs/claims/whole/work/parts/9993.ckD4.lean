/-! the law's rows of the check, 4 -/
set_option maxRecDepth 100000 in
theorem cs8 : chkS 281 2000 250 = true := by decide +kernel
set_option maxRecDepth 100000 in
theorem cs9 : chkS 281 2250 250 = true := by decide +kernel
