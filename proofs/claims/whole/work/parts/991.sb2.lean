/-! the class's output: signs and numbers are appended -/
theorem dgts_len (n : Nat) : ∀ j, (dgts n j).length = j + 1
  | 0 => rfl
  | j + 1 => by rw [dgts, List.length_cons, dgts_len n j]
theorem dgts_two (m : Nat) : ∀ j, dgts m (j + 2) = dgts (m / 100) j ++ [I (48 + m / 10 % 10), I (48 + m % 10)]
  | 0 => by
    simp only [dgts, List.cons_append, List.nil_append, Nat.pow_zero, Nat.div_one]
  | j + 1 => by
    rw [dgts, dgts_two m j, dgts, List.cons_append, Nat.div_div_eq_div_mul, show 100 * 10 ^ (j + 1) = 10 ^ (j + 2 + 1) by rw [show 100 = 10 ^ 2 from rfl, ← Nat.pow_add]; congr 1; omega]
theorem wr_app : ∀ (l1 l2 : List Int32) (f : Nat → Int32) (m : Nat), wr f m (l1 ++ l2) = wr (wr f m l1) (m + l1.length) l2
  | [], l2, f, m => rfl
  | v :: l1, l2, f, m => by
    rw [List.cons_append, wr, wr_app l1 l2, wr, List.length_cons, show m + 1 + l1.length = m + (l1.length + 1) by omega]
theorem wr_up : ∀ (l : List Int32) (f : Nat → Int32) (m q : Nat) (v : Int32), m + l.length ≤ q → wr (up f q v) m l = up (wr f m l) q v
  | [], f, m, q, v, _ => rfl
  | u :: l, f, m, q, v, h => by
    rw [List.length_cons] at h
    rw [wr, wr, up_comm f (show q ≠ m by omega), wr_up l _ (m + 1) q v (by omega)]
theorem wr_eqv {B f : Nat → Int32} : ∀ (l : List Int32) (B f : Nat → Int32) (m : Nat), Eqv m B f → Eqv (m + l.length) (wr B m l) (wr f m l)
  | [], B, f, m, h => h
  | v :: l, B, f, m, h => by
    rw [List.length_cons, wr, wr, show m + (l.length + 1) = m + 1 + l.length by omega]
    refine wr_eqv (B := B) (f := f) l _ _ (m + 1) fun k hk => ?_
    by_cases e : k = m
    · subst e; rw [up_eq, up_eq]
    · rw [up_ne _ _ e, up_ne _ _ e]; exact h k (by omega)
theorem Z_ng {a : Nat} (h : a < 2147483648) : Z (-(I a)) = -(a : Int) := by
  show (-(I a)).toInt = _
  rw [Int32.toInt_neg, show (I a).toInt = (a : Int) from Int32.toInt_ofNat_of_lt h]
  exact Int.bmod_eq_of_le (by omega) (by omega)
theorem ngl {a b : Nat} (ha : a < 2147483648) (hb : b < 2147483648) : -(I a) < -(I b) ↔ b < a := by
  rw [Z_lt, Z_ng ha, Z_ng hb]; omega
theorem I_nd {m : Nat} (h : m < 2147483648) : -(I m) / 100 = -(I (m / 100)) := by
  have hq : m / 100 ≤ m := Nat.div_le_self m 100
  refine Int32.toInt_inj.mp ?_
  rw [Int32.toInt_div, show (-(I m)).toInt = -(m : Int) from Z_ng h, show (-(I (m / 100))).toInt = -((m / 100 : Nat) : Int) from Z_ng (by omega), show (100 : Int32).toInt = ((100 : Nat) : Int) from rfl, Int.neg_tdiv, ← Int.ofNat_tdiv]
  generalize m / 100 = d at hq ⊢
  exact Int.bmod_eq_of_le (by omega) (by omega)
theorem ng_sub (a b : Int32) : -a - -b = b - a := by
  rw [Int32.sub_eq_add_neg, Int32.neg_neg, Int32.add_comm, ← Int32.sub_eq_add_neg]
theorem I_nm (m : Nat) : -(I (m / 100)) * 100 - -(I m) = I (m % 100) := by
  rw [Int32.neg_mul, ng_sub, show I (m / 100) * 100 = I (m / 100 * 100) from I_tim _ 100, I_sub (Nat.div_mul_le_self m 100)]
  congr 1; omega
theorem I_m1 (a : Nat) : I (a + 1) + (-1) = I a := by
  rw [← Int32.sub_eq_add_neg, I_sub1 (by omega)]; rfl
theorem m11 {v : Nat} (hv : v < 1000000000) (H : HS) : rcal 11 [.int (I v)] H = some (.inl (some (.int (I (tpd v 8 0 + 1)))), H) := by
  have l : ∀ f k, f + k = 9 → 1 ≤ k → rn 11 16 [.int (-(I v)), .int 0, .int (-(I (10 ^ k))), .int (I k)] [] H = some (.inl (some (.int (I (tpd v f (k - 1) + 1)))), H) := by
    intro f
    induction f with
    | zero =>
      intro k hk h1
      have e : k = 9 := by omega
      subst e
      have o : I 9 < 10 := by decide
      have o2 : -(I (10 ^ 9)) < -(I v) := (ngl (by decide) (by omega)).mpr (by omega)
      simp only [x11_0, x11_1, x11_2, x11_3, x11_6, x11_7, x11_8, x11_9, x11_10, x11_11, x11_13, x11_14, x11_15, x11_16, x11_17, x11_19, x11_22, x11_23, x11_24, x11_27, x11_28, x11_29, x11_30, x11_31, x11_33, x11_34, x11_35, x11_36, x11_42, x11_44, x11_45, x11_46, gk_some, pk_some, qk_some, bnd_v, bnd_n, kl_int, kl_ref, kl_null, kl_un, Nat.reduceAdd, if_true, if_false, o, o2]
      rfl
    | succ f ih =>
      intro k hk h1
      have hw : 1 ≤ 10 ^ k ∧ 10 ^ k ≤ 100000000 := p10 (by omega)
      have o : I k < 10 := (I_lt (b := 10) (by omega) (by decide)).mpr (by omega)
      have hp : 10 ^ k = 10 ^ (k - 1) * 10 := by rw [← Nat.pow_succ]; congr 1; omega
      have hd : 10 ≤ v / 10 ^ (k - 1) ↔ 10 ^ k ≤ v := by
        rw [Nat.le_div_iff_mul_le (Nat.pow_pos (by decide)), hp, Nat.mul_comm]
      unfold tpd
      by_cases c : v < 10 ^ k
      · have o2 : -(I (10 ^ k)) < -(I v) := (ngl (by omega) (by omega)).mpr c
        rw [if_neg (by omega)]
        simp only [x11_0, x11_1, x11_2, x11_3, x11_6, x11_7, x11_8, x11_9, x11_10, x11_11, x11_13, x11_14, x11_15, x11_16, x11_17, x11_19, x11_22, x11_23, x11_24, x11_27, x11_28, x11_29, x11_30, x11_31, x11_33, x11_34, x11_35, x11_36, x11_42, x11_44, x11_45, x11_46, gk_some, pk_some, qk_some, bnd_v, bnd_n, kl_int, kl_ref, kl_null, kl_un, Nat.reduceAdd, if_true, if_false, o, o2, show I k + 0 = I (k + 0) from I_add k 0]
        rw [show k + 0 = k - 1 + 1 by omega]
      · have o2 : ¬ -(I (10 ^ k)) < -(I v) := fun z => c ((ngl (by omega) (by omega)).mp z)
        have i2 := ih (k + 1) (by omega) (by omega)
        have m10 : (10 : Int32) * -(I (10 ^ k)) = -(I (10 ^ (k + 1))) := by
          rw [Int32.mul_neg, show (10 : Int32) * I (10 ^ k) = I (10 * 10 ^ k) from I_tim 10 _, Nat.pow_succ, Nat.mul_comm]
        rw [show k + 1 - 1 = k - 1 + 1 by omega] at i2
        rw [if_pos (by omega), x11_16, x11_17, x11_19, if_pos o]
        simp only [x11_0, x11_1, x11_2, x11_3, x11_6, x11_7, x11_8, x11_9, x11_10, x11_11, x11_13, x11_14, x11_15, x11_22, x11_23, x11_24, x11_27, x11_28, x11_29, x11_30, x11_31, x11_33, x11_34, x11_35, x11_36, x11_39, x11_42, x11_44, x11_45, x11_46, gk_some, pk_some, qk_some, bnd_v, bnd_n, kl_int, kl_ref, kl_null, kl_un, Nat.reduceAdd, if_true, if_false, o2, m10, I_1, i2]
  have l1 := l 8 1 rfl (by decide)
  have o : ¬ I v < 0 := I_nn (by omega)
  rw [show -(I (10 ^ 1)) = (-10 : Int32) from rfl, show I 1 = (1 : Int32) from rfl] at l1
  simp only [c11, x11_0, x11_1, x11_2, x11_3, x11_6, x11_7, x11_8, x11_9, x11_10, x11_11, x11_13, x11_14, x11_15, gk_some, pk_some, qk_some, bnd_v, bnd_n, kl_int, kl_ref, kl_null, kl_un, Nat.reduceAdd, if_true, if_false, o, l1]
theorem dOnes : ∃ L, cOs[27]? = some (102, L) ∧ L.length = 100 ∧ ∀ k, k < 100 → L[k]? = some (.int (I (48 + k % 10))) := ⟨_, rfl, by decide +kernel, by decide +kernel⟩
theorem dTens : ∃ L, cOs[28]? = some (102, L) ∧ L.length = 100 ∧ ∀ k, k < 100 → L[k]? = some (.int (I (48 + k / 10))) := ⟨_, rfl, by decide +kernel, by decide +kernel⟩
theorem nar48 : ∀ d, d < 10 → vp_nar .byte (I (48 + d)) = I (48 + d) := by decide +kernel
section SB3
variable (h : PH) (i n : Nat) (x : Int32) (r : Nat × Nat × Nat)
theorem rdO (ck : CK h) (B : Nat → Int32) {k : Nat} (hk : k < 100) : ald (sput h i n B x, r) 102 28 (I k) = some (.int (I (48 + k % 10))) := by
  obtain ⟨L, e1, e2, e3⟩ := dOnes
  have z : sput h i n B x 28 = some (102, L) := by
    rw [sput_o _ _ _ _ _ (by decide) (by unfold bAd; split <;> omega), ck 28 (by decide) (by decide)]; exact e1
  unfold ald
  simp only [z]
  rw [if_pos ⟨trivial, fun q => q.elim (I_nn (by omega)) (fun q => by rw [I_nat (by omega)] at q; omega), by omega⟩, I_nat (by omega)]
  exact e3 k hk
theorem rdT (ck : CK h) (B : Nat → Int32) {k : Nat} (hk : k < 100) : ald (sput h i n B x, r) 102 29 (I k) = some (.int (I (48 + k / 10))) := by
  obtain ⟨L, e1, e2, e3⟩ := dTens
  have z : sput h i n B x 29 = some (102, L) := by
    rw [sput_o _ _ _ _ _ (by decide) (by unfold bAd; split <;> omega), ck 29 (by decide) (by decide)]; exact e1
  unfold ald
  simp only [z]
  rw [if_pos ⟨trivial, fun q => q.elim (I_nn (by omega)) (fun q => by rw [I_nat (by omega)] at q; omega), by omega⟩, I_nat (by omega)]
  exact e3 k hk
theorem g10 (h3 : i ≤ 3) (ck : CK h) (P : Int32) : ∀ (j m q : Nat) (B : Nat → Int32) (y3 y4 : Value), m < 1000000000 → m < 10 ^ (j + 1) → (j = 0 ∨ 10 ^ j ≤ m) → q + j < capN i → rn 10 22 [.int (-(I m)), .int P, .ref (bAd i), y3, y4, .int (I (q + j + 1)), .int 0] [] (sput h i n B x, r) = some (.inl (some (.int (I q))), (sput h i n (wr B q (dgts m j)) x, r))
  | 0, m, q, B, y3, y4, hm, h1, h2, hq => by
    have hc := cap_3 i h3
    have m10 : m < 10 := h1
    have o1 : (-100 : Int32) < -(I m) := (ngl (a := 100) (by decide) (by omega)).mpr (by omega)
    have o2 : ¬ -(I m) < (-9 : Int32) := fun z => by have := (ngl (b := 9) (by omega) (by decide)).mp z; omega
    have a1 := rdO h i n x r ck B (k := m) (by omega)
    have w1 := wrS h i n B x r h3 (k := q) (by omega) (I (48 + m % 10))
    have nn : - -(I m) = I m := Int32.neg_neg
    have na := nar48 (m % 10) (by omega)
    simp only [Nat.add_zero]
    simp only [x10_0, x10_1, x10_3, x10_4, x10_7, x10_8, x10_12, x10_14, x10_16, x10_19, x10_20, x10_21, x10_23, x10_25, x10_28, x10_29, x10_31, x10_32, x10_33, x10_34, x10_36, x10_37, x10_38, x10_39, x10_41, x10_42, x10_43, x10_44, x10_47, x10_49, x10_52, x10_54, x10_55, x10_56, x10_57, x10_60, x10_62, x10_65, x10_67, x10_68, x10_69, x10_72, x10_73, x10_76, x10_78, x10_81, x10_82, x10_83, x10_84, x10_85, x10_86, x10_88, x10_91, x10_92, x10_95, x10_97, x10_100, x10_101, x10_102, x10_103, x10_104, x10_106, x10_109, x10_110, x10_113, x10_115, x10_117, x10_118, x10_120, x10_11, x10_22, gk_some, pk_some, qk_some, bnd_v, bnd_n, kl_int, kl_ref, kl_null, kl_un, Nat.reduceAdd, if_true, if_false, o1, I_m1, nn, a1, na, w1, o2]
    simp only [dgts, wr, Nat.pow_zero, Nat.div_one]
  | 1, m, q, B, y3, y4, hm, h1, h2, hq => by
    have hc := cap_3 i h3
    have m10 : m < 100 := h1
    have m1 : 10 ≤ m := by
      obtain z | z := h2
      · cases z
      · exact z
    have o1 : (-100 : Int32) < -(I m) := (ngl (a := 100) (by decide) (by omega)).mpr (by omega)
    have o2 : -(I m) < (-9 : Int32) := (ngl (b := 9) (by omega) (by decide)).mpr (by omega)
    have a1 := rdO h i n x r ck B (k := m) (by omega)
    have w1 := wrS h i n B x r h3 (k := q + 1) (by omega) (I (48 + m % 10))
    have a2 := rdT h i n x r ck (up B (q + 1) (I (48 + m % 10))) (k := m) (by omega)
    have w2 := wrS h i n (up B (q + 1) (I (48 + m % 10))) x r h3 (k := q) (by omega) (I (48 + m / 10))
    have nn : - -(I m) = I m := Int32.neg_neg
    have na := nar48 (m % 10) (by omega)
    have nb := nar48 (m / 10) (by omega)
    simp only [x10_0, x10_1, x10_3, x10_4, x10_7, x10_8, x10_12, x10_14, x10_16, x10_19, x10_20, x10_21, x10_23, x10_25, x10_28, x10_29, x10_31, x10_32, x10_33, x10_34, x10_36, x10_37, x10_38, x10_39, x10_41, x10_42, x10_43, x10_44, x10_47, x10_49, x10_52, x10_54, x10_55, x10_56, x10_57, x10_60, x10_62, x10_65, x10_67, x10_68, x10_69, x10_72, x10_73, x10_76, x10_78, x10_81, x10_82, x10_83, x10_84, x10_85, x10_86, x10_88, x10_91, x10_92, x10_95, x10_97, x10_100, x10_101, x10_102, x10_103, x10_104, x10_106, x10_109, x10_110, x10_113, x10_115, x10_117, x10_118, x10_120, x10_11, x10_22, gk_some, pk_some, qk_some, bnd_v, bnd_n, kl_int, kl_ref, kl_null, kl_un, Nat.reduceAdd, if_true, if_false, o1, I_m1, nn, a1, na, w1, o2, a2, nb, w2]
    simp only [dgts, wr, Nat.pow_zero, Nat.div_one, Nat.pow_one]
    rw [show m / 10 % 10 = m / 10 by omega, up_comm B (show q + 1 ≠ q by omega)]
  | j + 2, m, q, B, y3, y4, hm, h1, h2, hq => by
    have hc := cap_3 i h3
    have hpw : 10 ^ (j + 2) = 100 * 10 ^ j := by rw [Nat.pow_add, Nat.mul_comm]
    have hpw1 : 10 ^ (j + 2 + 1) = 100 * 10 ^ (j + 1) := by rw [show j + 2 + 1 = j + 1 + 2 by omega, Nat.pow_add, Nat.mul_comm]
    have hpos : 1 ≤ 10 ^ j := Nat.pow_pos (by decide)
    have m1 : 100 * 10 ^ j ≤ m := by
      obtain z | z := h2
      · omega
      · rw [← hpw]; exact z
    have o1 : ¬ (-100 : Int32) < -(I m) := fun z => by have := (ngl (a := 100) (by decide) (by omega)).mp z; omega
    have o0 : ¬ (100 : Int32) = 0 := by decide
    have e1 : -(I m) / 100 = -(I (m / 100)) := I_nd (by omega)
    have e2 := I_nm m
    have a1 := rdO h i n x r ck B (k := m % 100) (by omega)
    rw [show m % 100 % 10 = m % 10 by omega] at a1
    have w1 := wrS h i n B x r h3 (k := q + j + 2) (by omega) (I (48 + m % 10))
    have a2 := rdT h i n x r ck (up B (q + j + 2) (I (48 + m % 10))) (k := m % 100) (by omega)
    rw [show m % 100 / 10 = m / 10 % 10 by omega] at a2
    have w2 := wrS h i n (up B (q + j + 2) (I (48 + m % 10))) x r h3 (k := q + j + 1) (by omega) (I (48 + m / 10 % 10))
    have na := nar48 (m % 10) (by omega)
    have nb := nar48 (m / 10 % 10) (by omega)
    have ih := g10 h3 ck P j (m / 100) q (up (up B (q + j + 2) (I (48 + m % 10))) (q + j + 1) (I (48 + m / 10 % 10))) (.int (-(I (m / 100)))) (.int (I (m % 100))) (by omega) (by rw [hpw1] at h1; omega) (Or.inr (by omega)) (by omega)
    have p1 : I (q + (j + 2) + 1) + (-1) = I (q + j + 2) := I_m1 _
    have p2 : I (q + j + 2) + (-1) = I (q + j + 1) := I_m1 _
    rw [x10_22, x10_23, x10_25, if_neg o1]
    simp only [x10_28, x10_29, x10_31, x10_32, x10_33, x10_34, x10_36, x10_37, x10_38, x10_39, x10_41, x10_42, x10_43, x10_44, x10_47, x10_49, x10_52, x10_54, x10_55, x10_56, x10_57, x10_60, x10_62, x10_65, x10_67, x10_68, x10_69, gk_some, pk_some, qk_some, bnd_v, bnd_n, kl_int, kl_ref, kl_null, kl_un, Nat.reduceAdd, if_true, if_false, o0, e1, e2, p1, a1, na, w1, p2, a2, nb, w2, ih]
    have le := dgts_len (m / 100) j
    rw [dgts_two, wr_app, le, wr_up _ _ _ _ _ (by omega), wr_up _ _ _ _ _ (by omega)]
    simp only [wr]
    rw [show q + (j + 1) = q + j + 1 by omega, up_comm _ (show q + j + 2 ≠ q + j + 1 by omega)]
theorem tpd_dig {v : Nat} (hv : v < 1000000000) : v < 10 ^ (tpd v 8 0 + 1) ∧ (tpd v 8 0 = 0 ∨ 10 ^ tpd v 8 0 ≤ v) := by
  have l : ∀ f j, f + j = 8 → (j = 0 ∨ 10 ^ j ≤ v) → v < 10 ^ (tpd v f j + 1) ∧ (tpd v f j = 0 ∨ 10 ^ tpd v f j ≤ v) := by
    intro f
    induction f with
    | zero =>
      intro j hj h1
      have e : j = 8 := by omega
      subst e
      exact ⟨hv, h1⟩
    | succ f ih =>
      intro j hj h1
      have hd : 10 ≤ v / 10 ^ j ↔ 10 ^ (j + 1) ≤ v := by
        rw [Nat.le_div_iff_mul_le (Nat.pow_pos (by decide)), Nat.pow_succ, Nat.mul_comm]
      unfold tpd
      by_cases c : 9 < v / 10 ^ j
      · rw [if_pos c]
        exact ih (j + 1) (by omega) (Or.inr (hd.mp (by omega)))
      · rw [if_neg c]
        exact ⟨by omega, h1⟩
  exact l 8 0 rfl (Or.inl rfl)
theorem m10 (h3 : i ≤ 3) (ck : CK h) (B : Nat → Int32) {v q : Nat} (hv : v < 1000000000) (hq : q + tpd v 8 0 < capN i) : rcal 10 [.int (I v), .int (I (q + tpd v 8 0 + 1)), .ref (bAd i)] (sput h i n B x, r) = some (.inl (some (.int (I q))), (sput h i n (wr B q (dgts v (tpd v 8 0))) x, r)) := by
  have o : ¬ I v < 0 := I_nn (by omega)
  obtain ⟨t1, t2⟩ := tpd_dig hv
  have l := g10 h i n x r h3 ck (I (q + tpd v 8 0 + 1)) (tpd v 8 0) v q B un un hv t1 t2 hq
  simp only [c10, x10_0, x10_1, x10_3, x10_4, x10_11, x10_12, x10_14, x10_16, x10_19, x10_20, x10_21, gk_some, pk_some, qk_some, bnd_v, bnd_n, kl_int, kl_ref, kl_null, kl_un, Nat.reduceAdd, if_true, if_false, o, l]
end SB3
/-- the call k appends the signs cs -/
def SBW (k : Nat) (a : Value) (h : PH) (i n : Nat) (B : Nat → Int32) (x : Int32) (c s : Nat) (cs : List Int32) : Prop := ∃ h1 i' B', Fg h h1 ∧ i' ≤ 3 ∧ n + cs.length ≤ capN i' ∧ (∀ f, Eqv n B f → Eqv (n + cs.length) B' (wr f n cs)) ∧ rcal k [.ref 170, a] (sput h i n B x, rS c s i) = some (.inl (some (.ref 170)), (sput h1 i' (n + cs.length) B' x, rS c s i'))
def sgK (v : Int32) : Prop := v.toInt8.toInt32 = v ∧ vp_nar .byte v = v ∧ ¬ 255 < v
theorem CK_Fg {h h1 : PH} (ck : CK h) (f : Fg h h1) : CK h1 := fun b b1 b2 => by rw [f b (by omega) (by omega)]; exact ck b b1 b2
section SB4
variable (h : PH) (i n : Nat) (B : Nat → Int32) (x : Int32) (c s : Nat)
theorem sb_c (h3 : i ≤ 3) (hn : n ≤ capN i) (h142 : n + 1 ≤ 142) {v : Int32} (hv : sgK v) : SBW 19 (.int v) h i n B x c s [v] := by
  obtain ⟨v1, v2, v3⟩ := hv
  obtain ⟨h1, i', B', f1, f2, f3, f4, f5, f6, f7⟩ := ens h i n B x c s h3 hn (m := n + 1) h142 (by omega)
  have hc := cap_3 i' f3
  refine ⟨h1, i', up B' n v, f1, f3, f4, fun f ef => ?_, ?_⟩
  · have := wr_eqv (B := B') (f := f) [v] B' f n (fun k hk => (f6 k hk).trans (ef k hk))
    exact this
  · have w := wrS h1 i' (n + 1) B' x (rS c s i') f3 (k := n) (by omega) v
    have o1 : ¬ (1 : Int32) = 0 := by decide
    have t25 : ∀ H, rcal 25 [.int v] H = some (.inl (some (.int 1)), H) := fun H => by
      simp only [c25, x25_0, x25_1, x25_4, x25_7, x25_8, x25_12, x25_11, gk_some, pk_some, qk_some, bnd_v, bnd_n, kl_int, kl_ref, kl_null, kl_un, Nat.reduceAdd, if_true, if_false, v3, fit1]
    have cd : ∀ H : HS, recv H 170 6 = true → recv H 170 6 = true := fun _ z => z
    simp only [c19, x19_0, x19_1, x19_2, x19_5, x19_6, x19_7, c5, x5_0, x5_1, x5_2, x5_5, x5_6, x5_7, x5_10, x5_11, x5_14, x5_17, x5_18, x5_21, x5_24, x5_25, x5_28, x5_29, x5_30, x5_33, x5_34, x5_35, x5_36, x5_39, x5_40, x5_41, x5_42, x5_75, x5_76, x5_45, x5_46, x5_49, x5_52, x5_56, x5_57, x5_60, x5_61, x5_62, x5_65, x5_66, x5_67, x5_68, x5_71, gk_some, pk_some, qk_some, bnd_v, bnd_n, kl_int, kl_ref, kl_null, kl_un, Nat.reduceAdd, if_true, if_false, rvS, gs3, I_1, f7, m7S, o1, t25, gs0, ws3, v1, v2, w]
    rfl
theorem sb_n (h3 : i ≤ 3) (hn : n ≤ capN i) (ck : CK h) {v : Nat} (hv : v < 1000000000) (h142 : n + 9 ≤ 142) : SBW 20 (.int (I v)) h i n B x c s (dgts v (tpd v 8 0)) := by
  have ht := tpd_le v 8 0
  have hcc := cap_3 i h3
  obtain ⟨h1, i', B', f1, f2, f3, f4, f5, f6, f7⟩ := ens h i n B x c s h3 hn (m := n + tpd v 8 0 + 1) (by omega) (by omega)
  have hc := cap_3 i' f3
  have le := dgts_len v (tpd v 8 0)
  refine ⟨h1, i', wr B' n (dgts v (tpd v 8 0)), f1, f3, by omega, fun f ef => ?_, ?_⟩
  · exact wr_eqv (B := B') (f := f) _ B' f n (fun k hk => (f6 k hk).trans (ef k hk))
  · have t11 := fun H => m11 hv H
    have ei : I n + I (tpd v 8 0 + 1) = I (n + tpd v 8 0 + 1) := I_add _ _
    have o1 : ¬ (1 : Int32) = 0 := by decide
    have t10 := m10 h1 i' n x (rS c s i') f3 (CK_Fg ck f1) B' (v := v) (q := n) hv (by omega)
    have el : n + (dgts v (tpd v 8 0)).length = n + tpd v 8 0 + 1 := by rw [le]; rfl
    rw [el]
    simp only [c20, x20_0, x20_1, x20_2, x20_5, x20_6, x20_7, c6, x6_0, x6_1, x6_4, x6_5, x6_6, x6_7, x6_10, x6_11, x6_12, x6_13, x6_14, x6_17, x6_18, x6_21, x6_24, x6_25, x6_26, x6_27, x6_30, x6_33, x6_34, x6_48, x6_49, x6_50, x6_53, x6_54, x6_37, x6_38, x6_39, x6_40, x6_41, gk_some, pk_some, qk_some, bnd_v, bnd_n, kl_int, kl_ref, kl_null, kl_un, Nat.reduceAdd, if_true, if_false, rvS, gs3, t11, ei, f7, m7S, o1, gs0, t10, ws3]
theorem m22S (h3 : i ≤ 3) (h142 : n ≤ 142) : ∃ x', rcal 22 [.ref 170, .int 0] (sput h i n B x, rS c s i) = some (.inl none, (sput h i 0 B x', rS c s i)) := by
  have o : ¬ (0 : Int32) < 0 := by decide
  have o1 : ¬ I n < 0 := I_nn (by omega)
  have e := e1_no h i n B x (rS c s i) h3 (m := 0) (Nat.zero_le _)
  rw [show I 0 = 0 from rfl] at e
  have w0 := fun x => ws3 h i n B x (rS c s i) 0
  rw [show I 0 = 0 from rfl] at w0
  have w2 := ws2 h i n B x (rS c s i)
  by_cases q : 0 < I n
  · exact ⟨1, by simp only [c22, x22_0, x22_1, x22_2, x22_5, c3, x3_0, x3_1, x3_13, x3_14, x3_15, x3_18, x3_19, x3_22, x3_23, x3_26, x3_27, x3_30, x3_33, x3_34, x3_37, x3_38, x3_41, x3_48, x3_49, x3_52, x3_53, x3_56, x3_63, x3_64, x3_67, x3_68, x3_71, x3_72, x3_73, x3_76, x3_77, x3_78, x3_81, gk_some, pk_some, qk_some, bnd_v, bnd_n, kl_int, kl_ref, kl_null, kl_un, Nat.reduceAdd, if_true, if_false, rvS, o, e, gs3, o1, q, w2, w0]⟩
  · exact ⟨x, by simp only [c22, x22_0, x22_1, x22_2, x22_5, c3, x3_0, x3_1, x3_13, x3_14, x3_15, x3_18, x3_19, x3_22, x3_23, x3_26, x3_27, x3_30, x3_33, x3_34, x3_37, x3_38, x3_41, x3_48, x3_49, x3_52, x3_53, x3_56, x3_63, x3_64, x3_67, x3_68, x3_71, x3_72, x3_73, x3_76, x3_77, x3_78, x3_81, gk_some, pk_some, qk_some, bnd_v, bnd_n, kl_int, kl_ref, kl_null, kl_un, Nat.reduceAdd, if_true, if_false, rvS, o, e, gs3, o1, q, w0]⟩
theorem m23S : rcal 23 [.ref 170] (sput h i n B x, rS c s i) = some (.inl (some (.int (I n))), (sput h i n B x, rS c s i)) := by
  simp only [c23, x23_0, x23_1, x23_4, c8, x8_0, x8_1, x8_4, gk_some, pk_some, qk_some, bnd_v, bnd_n, kl_int, kl_ref, kl_null, kl_un, Nat.reduceAdd, if_true, if_false, rvS, gs3]
theorem m21S (h3 : i ≤ 3) (hn : n ≤ capN i) {k : Nat} (hk : k < n) (hc : chO (B k) = true) : rcal 21 [.ref 170, .int (I k)] (sput h i n B x, rS c s i) = some (.inl (some (.int (B k))), (sput h i n B x, rS c s i)) := by
  have hcc := cap_3 i h3
  unfold chO at hc
  simp only [Bool.and_eq_true, decide_eq_true_eq] at hc
  obtain ⟨c1, c2⟩ := hc
  have e : (if I (capN i) < I n then I (capN i) else I n) = I n := by
    rw [if_neg (fun z => by have := (I_lt (by omega) (by omega)).mp z; omega)]
  have k17 := fun H => m17 (a := I k) (b := I n) (I_nn (by omega)) ((I_lt (by omega) (by omega)).mpr hk) H
  have a := rdS h i n B x (rS c s i) h3 (k := k) (by omega)
  simp only [c21, x21_0, x21_1, x21_2, x21_5, c4, x4_0, x4_1, x4_4, x4_5, x4_6, x4_9, x4_10, x4_11, x4_14, x4_15, x4_16, x4_17, x4_18, x4_21, x4_23, x4_24, x4_26, x4_29, x4_30, x4_33, x4_34, x4_35, x4_36, x4_39, x4_40, x4_41, x4_42, x4_43, gk_some, pk_some, qk_some, bnd_v, bnd_n, kl_int, kl_ref, kl_null, kl_un, Nat.reduceAdd, if_true, if_false, rvS, gs0, gs1, gs3, alS, shr0, e, k17, a, c1, c2]
end SB4
