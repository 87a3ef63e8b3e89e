/-! the law's rows of the check, 10 -/
set_option maxRecDepth 100000 in
theorem cs12 : chkS 281 2125 54 = true := by decide +kernel
