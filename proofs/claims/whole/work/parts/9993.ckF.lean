/-! the law's rows of the check, together -/
theorem chkS_at {k a n pc : Nat} (h : chkS k a n = true) (h1 : a ≤ pc) (h2 : pc < a + n) : chkAt k pc = true := by
  unfold chkS at h
  rw [List.all_eq_true] at h
  exact h pc (List.mem_range'_1.mpr ⟨h1, h2⟩)
theorem mtop_l : mtop 281 ≤ 2500 := by decide
theorem cs_all (pc : Nat) (h : pc < 2500) : chkAt 281 pc = true := by
  by_cases c0 : pc < 250
  · exact chkS_at cs0 (by omega) (by omega)
  by_cases c1 : pc < 500
  · exact chkS_at cs1 (by omega) (by omega)
  by_cases c2 : pc < 750
  · exact chkS_at cs2 (by omega) (by omega)
  by_cases c3 : pc < 1000
  · exact chkS_at cs3 (by omega) (by omega)
  by_cases c4 : pc < 1250
  · exact chkS_at cs4 (by omega) (by omega)
  by_cases c5 : pc < 1375
  · exact chkS_at cs5 (by omega) (by omega)
  by_cases c6 : pc < 1500
  · exact chkS_at cs6 (by omega) (by omega)
  by_cases c7 : pc < 1625
  · exact chkS_at cs7 (by omega) (by omega)
  by_cases c8 : pc < 1750
  · exact chkS_at cs8 (by omega) (by omega)
  by_cases c9 : pc < 1875
  · exact chkS_at cs9 (by omega) (by omega)
  by_cases c10 : pc < 2000
  · exact chkS_at cs10 (by omega) (by omega)
  by_cases c11 : pc < 2125
  · exact chkS_at cs11 (by omega) (by omega)
  by_cases c12 : pc < 2179
  · exact chkS_at cs12 (by omega) (by omega)
  by_cases c13 : pc < 2233
  · exact chkS_at cs13 (by omega) (by omega)
  by_cases c14 : pc < 2287
  · exact chkS_at cs14 (by omega) (by omega)
  by_cases c15 : pc < 2341
  · exact chkS_at cs15 (by omega) (by omega)
  by_cases c16 : pc < 2395
  · exact chkS_at cs16 (by omega) (by omega)
  by_cases c17 : pc < 2449
  · exact chkS_at cs17 (by omega) (by omega)
  by_cases c18 : pc < 2503
  · exact chkS_at cs18 (by omega) (by omega)
  exact absurd h (by omega)
theorem ck281 : chkT 281 = true := by
  have e : chkT 281 = (List.range (mtop 281)).all (fun pc => chkAt 281 pc) := rfl
  rw [e, List.all_eq_true]
  intro pc hp
  exact cs_all pc (Nat.lt_of_lt_of_le (List.mem_range.mp hp) mtop_l)
