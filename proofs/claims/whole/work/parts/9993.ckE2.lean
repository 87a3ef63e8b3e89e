/-! the law's rows of the check, 5 -/
set_option maxRecDepth 100000 in
theorem cs7 : chkS 281 1500 125 = true := by decide +kernel
