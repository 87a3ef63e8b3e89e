/-! the law's rows of the check, 7 -/
set_option maxRecDepth 100000 in
theorem cs9 : chkS 281 1750 125 = true := by decide +kernel
