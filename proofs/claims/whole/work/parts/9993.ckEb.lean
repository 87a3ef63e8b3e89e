/-! the law's rows of the check, 14 -/
set_option maxRecDepth 100000 in
theorem cs16 : chkS 281 2341 54 = true := by decide +kernel
