/-! the reference: its program's letters -/
section MPARSE
variable (h : PH) {p : Nat} (g : Nat → Int32) (A : Nat → Nat → Int32) (r : Nat × Nat × Nat)
theorem m224n (hp : 32 ≤ p) (v : Int32) (e : g 11 = 60) : rcal 224 [.ref p, .int v] (mput h p g A, r) = some (.inl (some (.int (-1))), (mput h p (up g 9 1) A, r)) := by
  have w := pm9 h g A r hp 0
  have e' : up g 9 0 11 = 60 := by rw [up_ne _ _ (by decide)]; exact e
  have t := m150 h (up g 9 0) r hp A 1
  rw [up_up] at t
  simp only [c224, x224_0, x224_1, x224_2, x224_5, x224_6, x224_9, x224_11, x224_14, x224_15, x224_16, x224_19, x224_20, x224_21, x224_24, x224_25, x224_28, x224_29, x224_30, x224_31, x224_32, x224_35, x224_36, x224_37, x224_40, x224_41, x224_44, gk_some, pk_some, qk_some, bnd_v, bnd_n, kl_int, kl_ref, kl_null, kl_un, Nat.reduceAdd, if_true, if_false, gm0, gm1, gm2, gm3, gm4, gm5, gm6, gm7, gm8, gm9, gm10, gm11, gm12, gm13, gm14, gm15, gm16, gm17, gm18, gm19, gm20, gm21, gm22, rvM, w, e', t]
theorem m224 (hp : 32 ≤ p) (v : Int32) {n : Nat} (hn : n < 60) (e : g 11 = I n) : rcal 224 [.ref p, .int v] (mput h p g A, r) = some (.inl (some (.int (I (n + 1)))), (mput h p (up (up g 9 0) 11 (I (n + 1))) (ua A 6 (up (A 6) n v)), r)) := by
  have w := pm9 h g A r hp 0
  have e' : up g 9 0 11 = I n := by rw [up_ne _ _ (by decide)]; exact e
  have o1 : ¬ I n = 60 := fun y => by
    have y2 : Z (I n) = 60 := by rw [y]; rfl
    rw [Z_I (by omega)] at y2; omega
  have w6 := wn6 h (up g 9 0) A r hp (n := n) hn v
  have w11 := pm11 h (up g 9 0) (ua A 6 (up (A 6) n v)) r hp (I (n + 1))
  simp only [c224, x224_0, x224_1, x224_2, x224_5, x224_6, x224_9, x224_11, x224_14, x224_15, x224_16, x224_19, x224_20, x224_21, x224_24, x224_25, x224_28, x224_29, x224_30, x224_31, x224_32, x224_35, x224_36, x224_37, x224_40, x224_41, x224_44, gk_some, pk_some, qk_some, bnd_v, bnd_n, kl_int, kl_ref, kl_null, kl_un, Nat.reduceAdd, if_true, if_false, gm0, gm1, gm2, gm3, gm4, gm5, gm6, gm7, gm8, gm9, gm10, gm11, gm12, gm13, gm14, gm15, gm16, gm17, gm18, gm19, gm20, gm21, gm22, rvM, w, e', o1, w6, I_1, w11, up_eq]
/-- the sign that the reference sees -/
def hrS (f : Nat → Int32) (n q : Nat) : Int32 := if q < n then f q else -1
theorem m225 {n q : Nat} (hn : n ≤ 60) (hq : q ≤ 60) (e18 : g 18 = I q) (e19 : g 19 = I n) : rcal 225 [.ref p] (mput h p g A, r) = some (.inl (some (.int (hrS (A 6) n q))), (mput h p g A, r)) := by
  unfold hrS
  by_cases c : q < n
  · have a : I q < I n := (I_lt (by omega) (by omega)).mpr c
    have b := rn6 h g A r (p := p) (n := q) (by omega)
    simp only [c225, x225_0, x225_1, x225_4, x225_5, x225_8, x225_11, x225_12, x225_15, x225_16, x225_19, x225_20, x225_24, x225_23, gk_some, pk_some, qk_some, bnd_v, bnd_n, kl_int, kl_ref, kl_null, kl_un, Nat.reduceAdd, if_true, if_false, gm0, gm1, gm2, gm3, gm4, gm5, gm6, gm7, gm8, gm9, gm10, gm11, gm12, gm13, gm14, gm15, gm16, gm17, gm18, gm19, gm20, gm21, gm22, rvM, e18, e19, a, b, c]
  · have a : ¬ I q < I n := fun z => c ((I_lt (by omega) (by omega)).mp z)
    simp only [c225, x225_0, x225_1, x225_4, x225_5, x225_8, x225_11, x225_12, x225_15, x225_16, x225_19, x225_20, x225_24, x225_23, gk_some, pk_some, qk_some, bnd_v, bnd_n, kl_int, kl_ref, kl_null, kl_un, Nat.reduceAdd, if_true, if_false, gm0, gm1, gm2, gm3, gm4, gm5, gm6, gm7, gm8, gm9, gm10, gm11, gm12, gm13, gm14, gm15, gm16, gm17, gm18, gm19, gm20, gm21, gm22, rvM, e18, e19, a, c]
/-- a sign is expected: does it fail, and where to -/
def exS (f : Nat → Int32) (n q : Nat) (er : Bool) (v : Int32) : Bool := er || !decide (hrS f n q = v)
theorem m226 (hp : 32 ≤ p) {n q : Nat} {er : Bool} (hn : n ≤ 60) (hq : q ≤ 60) (e18 : g 18 = I q) (e19 : g 19 = I n) (e20 : g 20 = b2i er) (v : Int32) : rcal 226 [.ref p, .int v] (mput h p g A, r) = some (.inl none, (mput h p (up (up g 20 (b2i (exS (A 6) n q er v))) 18 (I (if exS (A 6) n q er v = true then q else q + 1))) A, r)) := by
  have t := m225 h (p := p) g A r hn hq e18 e19
  have p1 := pm20_1 h g A r hp
  have p0 := pm20_0 h g A r hp
  have k1 : up g 20 1 18 = I q := by rw [up_ne _ _ (by decide)]; exact e18
  have k0 : up g 20 0 18 = I q := by rw [up_ne _ _ (by decide)]; exact e18
  have q1 := pm18 h (up g 20 1) A r hp (I q)
  have q0 := pm18 h (up g 20 0) A r hp (I (q + 1))
  have z0 : I q + 0 = I q := I_add q 0
  have z1 : I q + 1 = I (q + 1) := I_1 q
  have n1 : ¬ (1 : Int32) = 0 := by decide
  cases er with
  | true =>
    have x : exS (A 6) n q true v = true := rfl
    rw [b2i_t] at e20
    simp only [c226, x226_0, x226_1, x226_2, x226_5, x226_8, x226_9, x226_12, x226_13, x226_16, x226_17, x226_21, x226_24, x226_25, x226_26, x226_29, x226_30, x226_33, x226_36, x226_37, x226_41, x226_42, x226_45, x226_40, x226_20, gk_some, pk_some, qk_some, bnd_v, bnd_n, kl_int, kl_ref, kl_null, kl_un, Nat.reduceAdd, if_true, if_false, gm0, gm1, gm2, gm3, gm4, gm5, gm6, gm7, gm8, gm9, gm10, gm11, gm12, gm13, gm14, gm15, gm16, gm17, gm18, gm19, gm20, gm21, gm22, rvM, e20, n1, p1, k1, up_eq, z0, q1, x, b2i_t]
  | false =>
    rw [b2i_f] at e20
    by_cases c : hrS (A 6) n q = v
    · have x : exS (A 6) n q false v = false := by simp [exS, c]
      simp only [c226, x226_0, x226_1, x226_2, x226_5, x226_8, x226_9, x226_12, x226_13, x226_16, x226_17, x226_21, x226_24, x226_25, x226_26, x226_29, x226_30, x226_33, x226_36, x226_37, x226_41, x226_42, x226_45, x226_40, x226_20, gk_some, pk_some, qk_some, bnd_v, bnd_n, kl_int, kl_ref, kl_null, kl_un, Nat.reduceAdd, if_true, if_false, gm0, gm1, gm2, gm3, gm4, gm5, gm6, gm7, gm8, gm9, gm10, gm11, gm12, gm13, gm14, gm15, gm16, gm17, gm18, gm19, gm20, gm21, gm22, rvM, e20, t, c, n1, p0, k0, up_eq, z1, q0, x, b2i_f, Bool.false_eq_true]
    · have x : exS (A 6) n q false v = true := by simp [exS, c]
      simp only [c226, x226_0, x226_1, x226_2, x226_5, x226_8, x226_9, x226_12, x226_13, x226_16, x226_17, x226_21, x226_24, x226_25, x226_26, x226_29, x226_30, x226_33, x226_36, x226_37, x226_41, x226_42, x226_45, x226_40, x226_20, gk_some, pk_some, qk_some, bnd_v, bnd_n, kl_int, kl_ref, kl_null, kl_un, Nat.reduceAdd, if_true, if_false, gm0, gm1, gm2, gm3, gm4, gm5, gm6, gm7, gm8, gm9, gm10, gm11, gm12, gm13, gm14, gm15, gm16, gm17, gm18, gm19, gm20, gm21, gm22, rvM, e20, t, c, n1, p1, k1, up_eq, z0, q1, x, b2i_t]
/-- a digit is taken: does it fail -/
def dgS (f : Nat → Int32) (n q : Nat) (er : Bool) : Bool := er || !dig f n q
theorem hr_dig (f : Nat → Int32) (n q : Nat) : decide (¬ hrS f n q < 48 ∧ ¬ 57 < hrS f n q) = dig f n q := by
  unfold hrS dig
  by_cases c : q < n
  · simp [c]
  · have a : (-1 : Int32) < 48 := by decide
    simp [c, a]
theorem hrS_at {f : Nat → Int32} {n q : Nat} (d : dig f n q = true) : hrS f n q = f q := by
  unfold dig at d
  simp only [Bool.and_eq_true, decide_eq_true_eq] at d
  unfold hrS; rw [if_pos d.1]
theorem m227 (hp : 32 ≤ p) {n q : Nat} {er : Bool} (hn : n ≤ 60) (hq : q ≤ 60) (e18 : g 18 = I q) (e19 : g 19 = I n) (e20 : g 20 = b2i er) : rcal 227 [.ref p] (mput h p g A, r) = some (.inl (some (.int (if dgS (A 6) n q er = true then 0 else A 6 q - 48))), (mput h p (up (up g 20 (b2i (dgS (A 6) n q er))) 18 (I (if dgS (A 6) n q er = true then q else q + 1))) A, r)) := by
  have t := m225 h (p := p) g A r hn hq e18 e19
  have p1 := pm20_1 h g A r hp
  have p0 := pm20_0 h g A r hp
  have k1 : up g 20 1 18 = I q := by rw [up_ne _ _ (by decide)]; exact e18
  have k0 : up g 20 0 18 = I q := by rw [up_ne _ _ (by decide)]; exact e18
  have k9 : up g 20 0 19 = I n := by rw [up_ne _ _ (by decide)]; exact e19
  have q1 := pm18 h (up g 20 1) A r hp (I q)
  have q0 := pm18 h (up g 20 0) A r hp (I (q + 1))
  have z0 : I q + 0 = I q := I_add q 0
  have z1 : I q + 1 = I (q + 1) := I_1 q
  have n1 : ¬ (1 : Int32) = 0 := by decide
  have t2 := m225 h (p := p) (up g 20 0) A r hn hq k0 k9
  cases er with
  | true =>
    have x : dgS (A 6) n q true = true := rfl
    rw [b2i_t] at e20
    simp only [c227, x227_0, x227_1, x227_2, x227_5, x227_8, x227_9, x227_12, x227_13, x227_16, x227_19, x227_22, x227_25, x227_26, x227_30, x227_33, x227_34, x227_37, x227_40, x227_41, x227_51, x227_52, x227_53, x227_54, x227_57, x227_58, x227_61, x227_64, x227_65, x227_69, x227_70, x227_73, x227_74, x227_68, x227_44, x227_45, x227_48, x227_50, x227_29, gk_some, pk_some, qk_some, bnd_v, bnd_n, kl_int, kl_ref, kl_null, kl_un, Nat.reduceAdd, if_true, if_false, gm0, gm1, gm2, gm3, gm4, gm5, gm6, gm7, gm8, gm9, gm10, gm11, gm12, gm13, gm14, gm15, gm16, gm17, gm18, gm19, gm20, gm21, gm22, rvM, e20, n1, p1, k1, up_eq, z0, q1, x, b2i_t]
  | false =>
    rw [b2i_f] at e20
    have m1 := fun H => m151_c (hrS (A 6) n q) H
    rw [hr_dig] at m1
    by_cases c : dig (A 6) n q = true
    · have x : dgS (A 6) n q false = false := by simp [dgS, c]
      have hh := hrS_at c
      rw [hh] at t t2 m1
      rw [c] at m1
      simp only [c227, x227_0, x227_1, x227_2, x227_5, x227_8, x227_9, x227_12, x227_13, x227_16, x227_19, x227_22, x227_25, x227_26, x227_30, x227_33, x227_34, x227_37, x227_40, x227_41, x227_51, x227_52, x227_53, x227_54, x227_57, x227_58, x227_61, x227_64, x227_65, x227_69, x227_70, x227_73, x227_74, x227_68, x227_44, x227_45, x227_48, x227_50, x227_29, gk_some, pk_some, qk_some, bnd_v, bnd_n, kl_int, kl_ref, kl_null, kl_un, Nat.reduceAdd, if_true, if_false, gm0, gm1, gm2, gm3, gm4, gm5, gm6, gm7, gm8, gm9, gm10, gm11, gm12, gm13, gm14, gm15, gm16, gm17, gm18, gm19, gm20, gm21, gm22, rvM, e20, t, m1, b2i_t, n1, p0, k0, up_eq, t2, z1, q0, x, b2i_f, Bool.false_eq_true]
    · have c' : dig (A 6) n q = false := by simpa using c
      have x : dgS (A 6) n q false = true := by simp [dgS, c']
      rw [c'] at m1
      simp only [c227, x227_0, x227_1, x227_2, x227_5, x227_8, x227_9, x227_12, x227_13, x227_16, x227_19, x227_22, x227_25, x227_26, x227_30, x227_33, x227_34, x227_37, x227_40, x227_41, x227_51, x227_52, x227_53, x227_54, x227_57, x227_58, x227_61, x227_64, x227_65, x227_69, x227_70, x227_73, x227_74, x227_68, x227_44, x227_45, x227_48, x227_50, x227_29, gk_some, pk_some, qk_some, bnd_v, bnd_n, kl_int, kl_ref, kl_null, kl_un, Nat.reduceAdd, if_true, if_false, gm0, gm1, gm2, gm3, gm4, gm5, gm6, gm7, gm8, gm9, gm10, gm11, gm12, gm13, gm14, gm15, gm16, gm17, gm18, gm19, gm20, gm21, gm22, rvM, e20, t, m1, b2i_f, n1, p1, k1, up_eq, z0, q1, x, b2i_t]
/-- a number is taken: where to, its value -/
def nbP (f : Nat → Int32) (n q : Nat) (er : Bool) : Nat := if dgS f n q er = true then q else if dig f n (q + 1) = true then q + 2 else q + 1
def nbV (f : Nat → Int32) (n q : Nat) (er : Bool) : Int32 := if dgS f n q er = true then 0 else if dig f n (q + 1) = true then 10 * (f q - 48) + (f (q + 1) - 48) else f q - 48
theorem up4 (g : Nat → Int32) (a b c d : Int32) : up (up (up (up g 20 a) 18 b) 20 c) 18 d = up (up g 20 c) 18 d := by
  funext i
  unfold up
  by_cases e : i = 18
  · simp [e]
  · by_cases e2 : i = 20
    · simp [e2]
    · simp [e, e2]
theorem dig_lt {f : Nat → Int32} {n q : Nat} (d : dig f n q = true) : q < n := by
  unfold dig at d; simp only [Bool.and_eq_true, decide_eq_true_eq] at d; exact d.1
theorem m228 (hp : 32 ≤ p) {n q : Nat} {er : Bool} (hn : n ≤ 60) (hq : q ≤ 60) (e18 : g 18 = I q) (e19 : g 19 = I n) (e20 : g 20 = b2i er) : rcal 228 [.ref p] (mput h p g A, r) = some (.inl (some (.int (nbV (A 6) n q er))), (mput h p (up (up g 20 (b2i (dgS (A 6) n q er))) 18 (I (nbP (A 6) n q er))) A, r)) := by
  have t := m227 h g A r hp hn hq e18 e19 e20
  have k20 : ∀ v w, up (up g 20 v) 18 w 20 = v := fun v w => by rw [up_ne _ _ (by decide), up_eq]
  have n1 : ¬ (1 : Int32) = 0 := by decide
  unfold nbV nbP
  cases x : dgS (A 6) n q er with
  | true =>
    rw [x] at t
    simp only [b2i_t, if_true] at t
    simp only [c228, x228_0, x228_1, x228_4, x228_5, x228_6, x228_9, x228_12, x228_13, x228_16, x228_17, x228_20, x228_23, x228_26, x228_29, x228_31, x228_32, x228_33, x228_34, x228_37, x228_38, x228_42, x228_41, gk_some, pk_some, qk_some, bnd_v, bnd_n, kl_int, kl_ref, kl_null, kl_un, Nat.reduceAdd, if_true, if_false, gm0, gm1, gm2, gm3, gm4, gm5, gm6, gm7, gm8, gm9, gm10, gm11, gm12, gm13, gm14, gm15, gm16, gm17, gm18, gm19, gm20, gm21, gm22, rvM, t, k20, n1, b2i_t]
  | false =>
    have dq : dig (A 6) n q = true := by
      unfold dgS at x
      simp only [Bool.or_eq_false_iff, Bool.not_eq_false'] at x
      exact x.2
    have hlt := dig_lt dq
    rw [x] at t
    simp only [b2i_f, Bool.false_eq_true, if_false] at t
    have k18 : up (up g 20 0) 18 (I (q + 1)) 18 = I (q + 1) := up_eq _ _ _
    have k19 : up (up g 20 0) 18 (I (q + 1)) 19 = I n := by rw [up_ne _ _ (by decide), up_ne _ _ (by decide)]; exact e19
    have t2 := m225 h (p := p) (up (up g 20 0) 18 (I (q + 1))) A r hn (by omega) k18 k19
    have m1 := fun H => m151_c (hrS (A 6) n (q + 1)) H
    rw [hr_dig] at m1
    have t3 := m227 h (up (up g 20 0) 18 (I (q + 1))) A r hp (er := false) hn (by omega) k18 k19 (k20 _ _)
    cases y : dig (A 6) n (q + 1) with
    | true =>
      have z : dgS (A 6) n (q + 1) false = false := by simp [dgS, y]
      rw [z, up4] at t3
      rw [y] at m1
      simp only [b2i_f, Bool.false_eq_true, if_false] at t3
      simp only [c228, x228_0, x228_1, x228_4, x228_5, x228_6, x228_9, x228_12, x228_13, x228_16, x228_17, x228_20, x228_23, x228_26, x228_29, x228_31, x228_32, x228_33, x228_34, x228_37, x228_38, x228_42, x228_41, gk_some, pk_some, qk_some, bnd_v, bnd_n, kl_int, kl_ref, kl_null, kl_un, Nat.reduceAdd, if_true, if_false, gm0, gm1, gm2, gm3, gm4, gm5, gm6, gm7, gm8, gm9, gm10, gm11, gm12, gm13, gm14, gm15, gm16, gm17, gm18, gm19, gm20, gm21, gm22, rvM, t, k20, t2, m1, b2i_t, n1, t3, b2i_f, Bool.false_eq_true]
    | false =>
      rw [y] at m1
      simp only [c228, x228_0, x228_1, x228_4, x228_5, x228_6, x228_9, x228_12, x228_13, x228_16, x228_17, x228_20, x228_23, x228_26, x228_29, x228_31, x228_32, x228_33, x228_34, x228_37, x228_38, x228_42, x228_41, gk_some, pk_some, qk_some, bnd_v, bnd_n, kl_int, kl_ref, kl_null, kl_un, Nat.reduceAdd, if_true, if_false, gm0, gm1, gm2, gm3, gm4, gm5, gm6, gm7, gm8, gm9, gm10, gm11, gm12, gm13, gm14, gm15, gm16, gm17, gm18, gm19, gm20, gm21, gm22, rvM, t, k20, t2, m1, b2i_f, Bool.false_eq_true]
end MPARSE
