/-! the law's rows of the check, 9 -/
set_option maxRecDepth 100000 in
theorem cs11 : chkS 281 2000 125 = true := by decide +kernel
