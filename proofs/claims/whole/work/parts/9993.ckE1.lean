/-! the law's rows of the check, 4 -/
set_option maxRecDepth 100000 in
theorem cs6 : chkS 281 1375 125 = true := by decide +kernel
