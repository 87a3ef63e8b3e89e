/-! the law's rows of the check, 8 -/
set_option maxRecDepth 100000 in
theorem cs10 : chkS 281 1875 125 = true := by decide +kernel
