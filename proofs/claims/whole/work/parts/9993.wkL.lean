/-! the law's rows of the check -/
theorem lawL (k pc n : Nat) (h : wkF k n ((mbytes k).data.toList.drop pc) pc = true) : ∀ q, pc ≤ q → q < pc + n → (match mcode k q with | none => true | some e => chkE k q e) = true :=
  wkF_ok n _ pc rfl h
set_option maxRecDepth 100000 in
theorem wlaw0 : wkF 281 500 ((mbytes 281).data.toList.drop 0) 0 = true := by decide +kernel
set_option maxRecDepth 100000 in
theorem wlaw1 : wkF 281 500 ((mbytes 281).data.toList.drop 500) 500 = true := by decide +kernel
set_option maxRecDepth 100000 in
theorem wlaw2 : wkF 281 500 ((mbytes 281).data.toList.drop 1000) 1000 = true := by decide +kernel
set_option maxRecDepth 100000 in
theorem wlaw3 : wkF 281 500 ((mbytes 281).data.toList.drop 1500) 1500 = true := by decide +kernel
set_option maxRecDepth 100000 in
theorem wlaw4 : wkF 281 479 ((mbytes 281).data.toList.drop 2000) 2000 = true := by decide +kernel
theorem wk_law : chkT 281 = true := by
  unfold chkT
  rw [List.all_eq_true]
  intro pc hp
  have hl : pc < 2479 := Nat.lt_of_lt_of_le (List.mem_range.mp hp) (by decide)
  by_cases c1 : pc < 500
  · exact lawL 281 0 500 wlaw0 pc (by omega) (by omega)
  by_cases c2 : pc < 1000
  · exact lawL 281 500 500 wlaw1 pc (by omega) (by omega)
  by_cases c3 : pc < 1500
  · exact lawL 281 1000 500 wlaw2 pc (by omega) (by omega)
  by_cases c4 : pc < 2000
  · exact lawL 281 1500 500 wlaw3 pc (by omega) (by omega)
  exact lawL 281 2000 479 wlaw4 pc (by omega) (by omega)
