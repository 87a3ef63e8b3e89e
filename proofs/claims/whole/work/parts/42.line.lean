/-! the line's own queries, part two -/
theorem I_sub1 {n : Nat} (hn : 1 ≤ n) : I n - 1 = I (n - 1) := (Int32.ofNat_sub n 1 hn).symm
theorem I_of {v : Int32} (h0 : ¬ v < 0) : v = I v.toNatClampNeg := (Int32.ofNat_toNatClampNeg v (Int32.not_lt.mp h0)).symm
theorem nat_lt {v : Int32} {n : Nat} (h0 : ¬ v < 0) (h1 : v < I n) (hn : n < 2147483648) : v.toNatClampNeg < n := by
  rw [I_of h0] at h1
  have hv : v.toNatClampNeg < 2147483648 := Int32.toNatClampNeg_lt v
  exact (I_lt hv hn).mp h1
def freN (tk : Nat → Int32) (S : List SL) (v : Int32) : Int32 := S.foldl (fun n s => if occP v s = true then n + (-1) else n) (tk v.toNatClampNeg)
def sumA (g : Nat → Int32) : Nat → Nat → Int32 → Int32
  | _, 0, z => z
  | a, c + 1, z => sumA g (a + 1) c (z + g a)
/-- what stands between two stations -/
def betw (g : Nat → Int32) (x y : Nat) : Int32 := sumA g (min x y) (max x y - min x y) 0
theorem I_min {x y : Nat} (hx : x < 2147483648) (hy : y < 2147483648) : (if I y < I x then I y else I x) = I (min x y) := by
  by_cases h : y < x
  · rw [if_pos ((I_lt hy hx).mpr h), Nat.min_eq_right (by omega)]
  · rw [if_neg (fun q => h ((I_lt hy hx).mp q)), Nat.min_eq_left (by omega)]
theorem I_max {x y : Nat} (hx : x < 2147483648) (hy : y < 2147483648) : (if I x < I y then I y else I x) = I (max x y) := by
  by_cases h : x < y
  · rw [if_pos ((I_lt hx hy).mpr h), Nat.max_eq_right (by omega)]
  · rw [if_neg (fun q => h ((I_lt hx hy).mp q)), Nat.max_eq_left (by omega)]
section LINE
variable (h : PH) {p : Nat} (f tk rt ps : Nat → Int32) (S : List SL) (r : Nat × Nat × Nat) {j i : Nat}
theorem m60 (w : WS S) {n : Nat} (hn : f 0 = I n) (h7 : n ≤ 7) {v : Int32} (h0 : ¬ v < 0) (h1 : v < I n) : rcal 60 [.ref p, .int v] (put h p f tk rt ps S, r) = some (.inl (some (.int (freN tk S v))), (put h p f tk rt ps S, r)) := by
  have e := fun z => l60 h f tk rt ps S r (p := p) w v S [] 0 (tk v.toNatClampNeg) z un un rfl rfl
  have hv := nat_lt h0 h1 (by omega)
  simp only [c60, x60_0, x60_1, x60_4, x60_5, x60_6, x60_9, x60_12, x60_13, x60_14, x60_15, x60_18, x60_19, x60_20, x60_21, x60_22, x60_25, x60_26, x60_27, x60_28, x60_30, x60_31, x60_35, x60_37, x60_40, x60_41, x60_43, x60_44, x60_46, x60_48, x60_51, x60_54, x60_57, x60_58, x60_62, x60_64, x60_66, x60_69, x60_72, x60_75, x60_77, x60_80, x60_81, x60_84, x60_85, x60_89, x60_91, x60_93, x60_96, x60_97, x60_100, x60_102, x60_105, x60_107, x60_110, x60_113, x60_116, x60_88, x60_61, x60_119, x60_120, gk_some, pk_some, qk_some, bnd_v, bnd_n, kl_int, kl_ref, kl_null, kl_un, Nat.reduceAdd, if_true, if_false, gl0, gl1, gl2, gl3, gl4, gl5, gl6, gl7, gl8, gl9, gl10, gl11, gl12, rvL, rvT, alL, ln1, ln2, ln3, w.1, h0, h1, hn, ra1, show v.toNatClampNeg < 7 by omega, e, freN, not_false_eq_true]
theorem l61 {n : Nat} (hn : f 0 = I n) (h7 : n ≤ 7) {x y : Nat} (hx : x < n) (hy : y < n) : ∀ (c a : Nat) (z : Int32), a + c = max x y → min x y ≤ a → rn 61 9 [.ref p, .int (I x), .int (I y), .int z, .int (I a)] [] (put h p f tk rt ps S, r) = some (.inl (some (.int (sumA rt a c z))), (put h p f tk rt ps S, r)) := by
  intro c
  induction c with
  | zero =>
    intro a z ha _
    rw [x61_9]
    have hlt : ¬ I a < I (max x y) := by rw [I_lt (by omega) (by omega)]; omega
    simp only [x61_0, x61_1, x61_2, x61_3, x61_4, x61_7, x61_11, x61_12, x61_13, x61_16, x61_19, x61_20, x61_22, x61_25, x61_28, x61_29, x61_30, x61_33, x61_35, x61_36, x61_37, x61_38, x61_41, x61_44, x61_45, gk_some, pk_some, qk_some, bnd_v, bnd_n, kl_int, kl_ref, kl_null, kl_un, Nat.reduceAdd, if_true, if_false, I_max (show x < 2147483648 by omega) (show y < 2147483648 by omega), hlt, sumA]
  | succ c ih =>
    intro a z ha hm
    have hlt : I a < I (max x y) := by rw [I_lt (by omega) (by omega)]; omega
    have h56 := m56 h f tk rt ps S r (p := p) (I a)
    rw [hn, I_sub1 (by omega)] at h56
    have hlt2 : I a < I (n - 1) := by rw [I_lt (by omega) (by omega)]; omega
    have hn0 : ¬ I a < 0 := I_nn (by omega)
    have hr := ra2 h f tk rt ps S r (p := p) hn0 (by rw [I_nat (by omega)]; omega)
    rw [I_nat (by omega)] at hr
    have ih' := ih (a + 1) (z + rt a) (by omega) (by omega)
    rw [x61_9]
    simp only [x61_0, x61_1, x61_2, x61_3, x61_4, x61_7, x61_11, x61_12, x61_13, x61_16, x61_19, x61_20, x61_22, x61_25, x61_28, x61_29, x61_30, x61_33, x61_35, x61_36, x61_37, x61_38, x61_41, x61_44, x61_45, gk_some, pk_some, qk_some, bnd_v, bnd_n, kl_int, kl_ref, kl_null, kl_un, Nat.reduceAdd, if_true, if_false, gl0, gl1, gl2, gl3, gl4, gl5, gl6, gl7, gl8, gl9, gl10, gl11, gl12, rvL, rvT, alL, ln1, ln2, ln3, I_max (show x < 2147483648 by omega) (show y < 2147483648 by omega), hlt, h56, hn0, hlt2, fit1, fit0, fitb, b2i_t, b2i_f, reduceIte, decide_true, decide_false, not_false_eq_true, and_self, ne10, hr, I_1, ih', sumA]
theorem m61 {n : Nat} (hn : f 0 = I n) (h7 : n ≤ 7) {x y : Nat} (hx : x < n) (hy : y < n) : rcal 61 [.ref p, .int (I x), .int (I y)] (put h p f tk rt ps S, r) = some (.inl (some (.int (betw rt x y))), (put h p f tk rt ps S, r)) := by
  have e := l61 h f tk rt ps S r (p := p) hn h7 hx hy (max x y - min x y) (min x y) 0 (by omega) (by omega)
  have e2 : (if I x < I y then I x else I y) = I (min x y) := by rw [I_min (by omega) (by omega), Nat.min_comm]
  simp only [c61, x61_0, x61_1, x61_2, x61_3, x61_4, x61_7, x61_11, x61_12, x61_13, x61_16, x61_19, x61_20, x61_22, x61_25, x61_28, x61_29, x61_30, x61_33, x61_35, x61_36, x61_37, x61_38, x61_41, x61_44, x61_45, gk_some, pk_some, qk_some, bnd_v, bnd_n, kl_int, kl_ref, kl_null, kl_un, Nat.reduceAdd, if_true, if_false, I_min (show x < 2147483648 by omega) (show y < 2147483648 by omega), e2, e, betw]
/-- the difference of two positions -/
def psD (g : Nat → Int32) (x y : Nat) : Int32 := if 0 ≤ g x - g y then g x - g y else 0 - (g x - g y)
theorem m62 {n : Nat} (hn : f 0 = I n) (h7 : n ≤ 7) {x y : Nat} (hx : x < n) (hy : y < n) : rcal 62 [.ref p, .int (I x), .int (I y)] (put h p f tk rt ps S, r) = some (.inl (some (.int (psD ps x y))), (put h p f tk rt ps S, r)) := by
  have h1 := m55 h f tk rt ps S r (p := p) (I x)
  have h2 := m55 h f tk rt ps S r (p := p) (I y)
  have x0 : ¬ I x < 0 := I_nn (by omega)
  have y0 : ¬ I y < 0 := I_nn (by omega)
  have x1 : I x < I n := (I_lt (by omega) (by omega)).mpr hx
  have y1 : I y < I n := (I_lt (by omega) (by omega)).mpr hy
  rw [hn] at h1 h2
  have hr := ra3 h f tk rt ps S r (p := p) x0 (by rw [I_nat (by omega)]; omega)
  have hr2 := ra3 h f tk rt ps S r (p := p) y0 (by rw [I_nat (by omega)]; omega)
  rw [I_nat (by omega)] at hr hr2
  simp only [c62, x62_0, x62_1, x62_2, x62_5, x62_8, x62_9, x62_10, x62_13, x62_16, x62_17, x62_18, x62_19, x62_22, x62_23, x62_24, x62_25, x62_28, x62_29, x62_30, x62_31, x62_34, gk_some, pk_some, qk_some, bnd_v, bnd_n, kl_int, kl_ref, kl_null, kl_un, Nat.reduceAdd, if_true, if_false, gl0, gl1, gl2, gl3, gl4, gl5, gl6, gl7, gl8, gl9, gl10, gl11, gl12, rvL, rvT, alL, ln1, ln2, ln3, h1, h2, x0, y0, x1, y1, fit1, fit0, fitb, b2i_t, b2i_f, reduceIte, decide_true, decide_false, not_false_eq_true, and_self, ne10, hr, hr2, psD]
def bef (t : TR) (s : SL) : Bool := decide (s.2.1 ≠ 1) && rkB s.2 t
theorem l64 (w : WS S) (hj : has S j) : ∀ (R D : List SL) (i n : Int32) (z : Value), S = D ++ R → i = I D.length → rn 64 14 [.ref p, .ref (p + 5 + j), .int n, .ref (p + 4), .int (I 6), .int i, z] [] (put h p f tk rt ps S, r) = some (.inl (some (.int (R.foldl (fun n s => if bef (tr S j) s = true then n + 1 else n) n))), (put h p f tk rt ps S, r)) := by
  intro R
  induction R with
  | nil =>
    intro D i n z hS hi
    have hl := end_ w hS
    rw [x64_14]
    simp only [x64_0, x64_1, x64_2, x64_3, x64_6, x64_7, x64_8, x64_9, x64_11, x64_12, x64_16, x64_18, x64_21, x64_22, x64_24, x64_25, x64_27, x64_29, x64_32, x64_35, x64_37, x64_38, x64_41, x64_44, x64_47, x64_50, x64_53, x64_54, gk_some, pk_some, qk_some, bnd_v, bnd_n, kl_int, kl_ref, kl_null, kl_un, Nat.reduceAdd, if_true, if_false, hi, hl, nlt6, List.foldl_nil]
  | cons s R ih =>
    intro D i n z hS hi
    obtain ⟨h1, h2, h3, h4, h5⟩ := mid_ w hS
    have ha := at_mid h f tk rt ps S r (p := p) hS (by rw [w.1]; decide)
    have ih' := fun n z => ih (D ++ [s]) (I D.length + 1) n z (sub_ hS) (len_ D s)
    have hm := m82 h f tk rt ps S r (p := p) h1 (by rw [h2]; exact h3)
    have hm2 := m88 h f tk rt ps S r (p := p) h1 hj
    rw [x64_14]
    simp only [x64_0, x64_1, x64_2, x64_3, x64_6, x64_7, x64_8, x64_9, x64_11, x64_12, x64_16, x64_18, x64_21, x64_22, x64_24, x64_25, x64_27, x64_29, x64_32, x64_35, x64_37, x64_38, x64_41, x64_44, x64_47, x64_50, x64_53, x64_54, gk_some, pk_some, qk_some, bnd_v, bnd_n, kl_int, kl_ref, kl_null, kl_un, Nat.reduceAdd, if_true, if_false, gt0, gt1, gt2, gt3, gt4, gt5, gt6, gt7, gt8, gt9, gt10, gt11, rvL, rvT, alL, ln1, ln2, ln3, h1, hi, h4, ha, h2, hj, hm, hm2, ih', List.foldl_cons]
    by_cases e : s.2.1 = 1
    · have e2 : bef (tr S j) s = false := by simp [bef, e]
      simp only [e, fit1, fit0, fitb, b2i_t, b2i_f, reduceIte, decide_true, decide_false, ne_eq, not_true_eq_false, Bool.false_eq_true, e2]
    · by_cases e3 : rkB s.2 (tr S j) = true
      · have e2 : bef (tr S j) s = true := by simp [bef, e, e3]
        simp only [e, fit1, fit0, fitb, b2i_t, b2i_f, reduceIte, decide_true, decide_false, ne_eq, not_false_eq_true, ne10, e3, e2]
      · have e4 : rkB s.2 (tr S j) = false := by simpa using e3
        have e2 : bef (tr S j) s = false := by simp [bef, e4]
        simp only [e, fit1, fit0, fitb, b2i_t, b2i_f, reduceIte, decide_true, decide_false, ne_eq, not_false_eq_true, ne10, e4, e2, Bool.false_eq_true]
theorem m64 (w : WS S) (hj : has S j) : rcal 64 [.ref p, .ref (p + 5 + j)] (put h p f tk rt ps S, r) = some (.inl (some (.int (S.foldl (fun n s => if bef (tr S j) s = true then n + 1 else n) 0))), (put h p f tk rt ps S, r)) := by
  have e := l64 h f tk rt ps S r (p := p) w hj S [] 0 0 un rfl rfl
  simp only [c64, x64_0, x64_1, x64_2, x64_3, x64_6, x64_7, x64_8, x64_9, x64_11, x64_12, x64_16, x64_18, x64_21, x64_22, x64_24, x64_25, x64_27, x64_29, x64_32, x64_35, x64_37, x64_38, x64_41, x64_44, x64_47, x64_50, x64_53, x64_54, gk_some, pk_some, qk_some, bnd_v, bnd_n, kl_int, kl_ref, kl_null, kl_un, Nat.reduceAdd, if_true, if_false, gl0, gl1, gl2, gl3, gl4, gl5, gl6, gl7, gl8, gl9, gl10, gl11, gl12, rvL, rvT, alL, ln1, ln2, ln3, w.1, e]
end LINE
