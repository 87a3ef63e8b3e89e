/-! the rows of the check, together -/
theorem all_ck : ∀ k, k < 282 → chkT k = true := by
  intro k hk
  by_cases c0 : k < 40
  · exact wkA_all wk_t0 (by omega) (by omega)
  by_cases c40 : k < 80
  · exact wkA_all wk_t40 (by omega) (by omega)
  by_cases c80 : k < 120
  · exact wkA_all wk_t80 (by omega) (by omega)
  by_cases c120 : k < 160
  · exact wkA_all wk_t120 (by omega) (by omega)
  by_cases c160 : k < 200
  · exact wkA_all wk_t160 (by omega) (by omega)
  by_cases c200 : k < 240
  · exact wkA_all wk_t200 (by omega) (by omega)
  by_cases c240 : k < 281
  · exact wkA_all wk_t240 (by omega) (by omega)
  have e : k = 281 := by omega
  rw [e]
  exact wk_law
