/-! the law's rows of the check, 3 -/
set_option maxRecDepth 100000 in
theorem cs5 : chkS 281 1250 125 = true := by decide +kernel
