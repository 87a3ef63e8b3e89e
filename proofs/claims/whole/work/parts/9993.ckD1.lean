/-! the law's rows of the check, 1 -/
set_option maxRecDepth 100000 in
theorem cs2 : chkS 281 500 250 = true := by decide +kernel
set_option maxRecDepth 100000 in
theorem cs3 : chkS 281 750 250 = true := by decide +kernel
