/-! the rows of the check, 1 -/
set_option maxRecDepth 100000 in
theorem wk_t0 : (List.range' 0 40).all wkA = true := by decide +kernel
set_option maxRecDepth 100000 in
theorem wk_t40 : (List.range' 40 40).all wkA = true := by decide +kernel
set_option maxRecDepth 100000 in
theorem wk_t80 : (List.range' 80 40).all wkA = true := by decide +kernel
set_option maxRecDepth 100000 in
theorem wk_t120 : (List.range' 120 40).all wkA = true := by decide +kernel
set_option maxRecDepth 100000 in
theorem wk_t160 : (List.range' 160 40).all wkA = true := by decide +kernel
set_option maxRecDepth 100000 in
theorem wk_t200 : (List.range' 200 40).all wkA = true := by decide +kernel
set_option maxRecDepth 100000 in
theorem wk_t240 : (List.range' 240 41).all wkA = true := by decide +kernel
