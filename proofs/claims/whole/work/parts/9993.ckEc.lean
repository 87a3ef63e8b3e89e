/-! the law's rows of the check, 15 -/
set_option maxRecDepth 100000 in
theorem cs17 : chkS 281 2395 54 = true := by decide +kernel
