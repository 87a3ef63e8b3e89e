/-! the law's rows of the check, 3 -/
set_option maxRecDepth 100000 in
theorem cs6 : chkS 281 1500 250 = true := by decide +kernel
set_option maxRecDepth 100000 in
theorem cs7 : chkS 281 1750 250 = true := by decide +kernel
