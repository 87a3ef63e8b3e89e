/-! whole numbers divided -/
theorem I_div {a b : Nat} (ha : a < 2147483648) (hb : b < 2147483648) : I a / I b = I (a / b) := by
  have hq : a / b ≤ a := Nat.div_le_self a b
  refine Int32.toInt_inj.mp ?_
  rw [Int32.toInt_div, Int32.toInt_ofNat_of_lt ha, Int32.toInt_ofNat_of_lt hb, Int32.toInt_ofNat_of_lt (by omega), ← Int.ofNat_tdiv]
  generalize a / b = d at hq ⊢
  exact Int.bmod_eq_of_le (by omega) (by omega)
theorem I_mod {a b : Nat} (ha : a < 2147483648) (hb : b < 2147483648) : I a - I a / I b * I b = I (a % b) := by
  rw [I_div ha hb, I_tim, ← Int32.ofNat_sub _ _ (Nat.div_mul_le_self a b)]
  have := Nat.div_add_mod a b
  rw [show a - a / b * b = a % b by rw [Nat.mul_comm (a / b) b]; omega]
