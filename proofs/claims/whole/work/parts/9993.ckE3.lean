/-! the law's rows of the check, 6 -/
set_option maxRecDepth 100000 in
theorem cs8 : chkS 281 1625 125 = true := by decide +kernel
