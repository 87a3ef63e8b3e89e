/-! a callee's own words, once for each method -/
theorem chkM_t0 : (List.range' 0 20).all (chkMg watF) = true := by decide +kernel
theorem chkM_t20 : (List.range' 20 20).all (chkMg watF) = true := by decide +kernel
theorem chkM_t40 : (List.range' 40 20).all (chkMg watF) = true := by decide +kernel
theorem chkM_t60 : (List.range' 60 20).all (chkMg watF) = true := by decide +kernel
theorem chkM_t80 : (List.range' 80 20).all (chkMg watF) = true := by decide +kernel
theorem chkM_t100 : (List.range' 100 20).all (chkMg watF) = true := by decide +kernel
theorem chkM_t120 : (List.range' 120 20).all (chkMg watF) = true := by decide +kernel
theorem chkM_t140 : (List.range' 140 20).all (chkMg watF) = true := by decide +kernel
theorem chkM_t160 : (List.range' 160 20).all (chkMg watF) = true := by decide +kernel
theorem chkM_t180 : (List.range' 180 20).all (chkMg watF) = true := by decide +kernel
theorem chkM_t200 : (List.range' 200 20).all (chkMg watF) = true := by decide +kernel
theorem chkM_t220 : (List.range' 220 20).all (chkMg watF) = true := by decide +kernel
theorem chkM_t240 : (List.range' 240 20).all (chkMg watF) = true := by decide +kernel
theorem chkM_t260 : (List.range' 260 20).all (chkMg watF) = true := by decide +kernel
theorem chkM_t280 : (List.range' 280 1).all (chkMg watF) = true := by decide +kernel
