/-! the reference writes a number -/
def dgts (n : Nat) : Nat → List Int32
  | 0 => [I (48 + n / 10 ^ 0 % 10)]
  | j + 1 => I (48 + n / 10 ^ (j + 1) % 10) :: dgts n j
def wr (f : Nat → Int32) (m : Nat) : List Int32 → Nat → Int32
  | [] => f
  | v :: l => wr (up f m v) (m + 1) l
theorem p10 {j : Nat} (hj : j ≤ 8) : 1 ≤ 10 ^ j ∧ 10 ^ j ≤ 100000000 := ⟨Nat.pow_le_pow_right (n := 10) (by decide) (Nat.zero_le j), Nat.pow_le_pow_right (n := 10) (by decide) hj⟩
section MNUM
variable (h : PH) {p : Nat} (r : Nat × Nat × Nat)
theorem s237 (hp : 32 ≤ p) {n j m : Nat} (hn : n < 1000000000) (hj : j ≤ 8) (g : Nat → Int32) (A : Nat → Nat → Int32) (e : g 22 = I m) (hm : m < 120) : rn 237 18 [.ref p, .int (I n), .int (I (10 ^ j))] [] (mput h p g A, r) = rn 237 18 [.ref p, .int (I n), .int (I (10 ^ j / 10))] [] (mput h p (up g 22 (I (m + 1))) (ua A 11 (up (A 11) m (I (48 + n / 10 ^ j % 10)))), r) := by
  obtain ⟨b1, b2⟩ := p10 hj
  generalize 10 ^ j = w at *
  have o : (0 : Int32) < I w := (I_lt (a := 0) (by decide) (by omega)).mpr (by omega)
  have o2 : ¬ I w = 0 := fun y => by
    have y2 : Z (I w) = 0 := by rw [y]; rfl
    rw [Z_I (by omega)] at y2; omega
  have o3 : ¬ (10 : Int32) = 0 := by decide
  have d1 := I_div (a := n) (b := w) (by omega) (by omega)
  have hq : n / w ≤ n := Nat.div_le_self n w
  have d2 : I (n / w) - I (n / w) / 10 * 10 = I (n / w % 10) := I_mod (b := 10) (by omega) (by decide)
  have d3 : (48 : Int32) + I (n / w % 10) = I (48 + n / w % 10) := I_add 48 _
  have d4 : I w / 10 = I (w / 10) := I_div (b := 10) (by omega) (by decide)
  have t := m236 h g A r hp hm e (I (48 + n / w % 10))
  rw [x237_18, x237_19, if_pos o]
  simp only [x237_22, x237_23, x237_25, x237_26, x237_27, x237_28, x237_30, x237_31, x237_32, x237_35, x237_36, x237_38, x237_39, x237_40, gk_some, pk_some, qk_some, bnd_v, bnd_n, kl_int, kl_ref, kl_null, kl_un, Nat.reduceAdd, if_true, if_false, gm0, gm1, gm2, gm3, gm4, gm5, gm6, gm7, gm8, gm9, gm10, gm11, gm12, gm13, gm14, gm15, gm16, gm17, gm18, gm19, gm20, gm21, gm22, rvM, o2, o3, d1, d2, d3, t, d4]
theorem l237 (hp : 32 ≤ p) {n : Nat} (hn : n < 1000000000) : ∀ (j m : Nat) (g : Nat → Int32) (A : Nat → Nat → Int32), j ≤ 8 → g 22 = I m → m + j < 120 → rn 237 18 [.ref p, .int (I n), .int (I (10 ^ j))] [] (mput h p g A, r) = some (.inl none, (mput h p (up g 22 (I (m + j + 1))) (ua A 11 (wr (A 11) m (dgts n j))), r)) := by
  intro j
  induction j with
  | zero =>
    intro m g A hj e hm
    rw [s237 h r hp hn hj g A e (by omega)]
    have o : ¬ (0 : Int32) < 0 := by decide
    rw [show I (10 ^ 0 / 10) = 0 from rfl, x237_18, x237_19, if_neg o, x237_43]
    rfl
  | succ j ih =>
    intro m g A hj e hm
    rw [s237 h r hp hn hj g A e (by omega), show 10 ^ (j + 1) / 10 = 10 ^ j by rw [Nat.pow_succ]; exact Nat.mul_div_cancel _ (by decide)]
    have i2 := ih (m + 1) (up g 22 (I (m + 1))) (ua A 11 (up (A 11) m (I (48 + n / 10 ^ (j + 1) % 10)))) (by omega) (up_eq _ _ _) (by omega)
    rw [up_up, ua_ua, ua_eq, show m + 1 + j + 1 = m + (j + 1) + 1 by omega] at i2
    rw [i2]
    rfl
/-- the place of the highest digit -/
def tpd (n : Nat) : Nat → Nat → Nat
  | 0, j => j
  | f + 1, j => if 9 < n / 10 ^ j then tpd n f (j + 1) else j
theorem tpd_le (n : Nat) : ∀ f j, tpd n f j ≤ j + f
  | 0, j => Nat.le_refl _
  | f + 1, j => by
    unfold tpd
    split
    · have := tpd_le n f (j + 1); omega
    · omega
theorem k237 {n : Nat} (hn : n < 1000000000) (H : HS) : ∀ (f j : Nat), f + j = 8 → rn 237 2 [.ref p, .int (I n), .int (I (10 ^ j))] [] H = rn 237 18 [.ref p, .int (I n), .int (I (10 ^ tpd n f j))] [] H := by
  have st : ∀ j, j ≤ 8 → rn 237 2 [.ref p, .int (I n), .int (I (10 ^ j))] [] H = if 9 < n / 10 ^ j then rn 237 2 [.ref p, .int (I n), .int (I (10 ^ j * 10))] [] H else rn 237 18 [.ref p, .int (I n), .int (I (10 ^ j))] [] H := by
    intro j hj
    obtain ⟨b1, b2⟩ := p10 hj
    generalize 10 ^ j = w at *
    have o2 : ¬ I w = 0 := fun y => by
      have y2 : Z (I w) = 0 := by rw [y]; rfl
      rw [Z_I (by omega)] at y2; omega
    have d1 := I_div (a := n) (b := w) (by omega) (by omega)
    have hq : n / w ≤ n := Nat.div_le_self n w
    have m10 : I w * 10 = I (w * 10) := I_tim w 10
    rw [x237_2, x237_3, x237_4, if_neg o2, d1, x237_5, x237_7]
    by_cases c : 9 < n / w
    · have a : (9 : Int32) < I (n / w) := (I_lt (a := 9) (by decide) (by omega)).mpr c
      rw [if_pos a, if_pos c, x237_10, x237_11, x237_13, m10, x237_14, x237_15]
      rfl
    · have a : ¬ (9 : Int32) < I (n / w) := fun z => c ((I_lt (a := 9) (by decide) (by omega)).mp z)
      rw [if_neg a, if_neg c]
  intro f
  induction f with
  | zero =>
    intro j hj
    have e : j = 8 := by omega
    subst e
    rw [st 8 (by decide), if_neg (by omega)]
    rfl
  | succ f ih =>
    intro j hj
    rw [st j (by omega)]
    unfold tpd
    split
    · rw [← Nat.pow_succ]; exact ih (j + 1) (by omega)
    · rfl
theorem m237 (hp : 32 ≤ p) {n m : Nat} (hn : n < 1000000000) (g : Nat → Int32) (A : Nat → Nat → Int32) (e : g 22 = I m) (hm : m + 8 < 120) : rcal 237 [.ref p, .int (I n)] (mput h p g A, r) = some (.inl none, (mput h p (up g 22 (I (m + tpd n 8 0 + 1))) (ua A 11 (wr (A 11) m (dgts n (tpd n 8 0)))), r)) := by
  have t := tpd_le n 8 0
  have k := k237 (p := p) hn (mput h p g A, r) 8 0 rfl
  rw [l237 h r hp hn (tpd n 8 0) m g A (by omega) e (by omega)] at k
  rw [c237, x237_0, x237_1]
  exact k
end MNUM
