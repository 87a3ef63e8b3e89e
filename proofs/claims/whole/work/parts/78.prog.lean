/-! the class's program: its object 167, its text 168, its numbers 169 -/
def cA (n : Nat) (g : Nat → Int32) : PO := (101, (List.range n).map fun i => .int (g i))
def prO (g : Nat → Int32) (c : Nat) : PO := (4, [.ref 168, .int (g 1), .int (g 2), .int (g 3), .ref c, .ref 169, .int (g 6)])
def pput (h : PH) (T A g : Nat → Int32) (c : Nat) : PH := fun b =>
  if b = 167 then some (prO g c) else if b = 168 then some (cA 60 T) else if b = 169 then some (iA 3 A) else h b
section PPUT
variable (h : PH) (T A g : Nat → Int32) (c : Nat) (r : Nat × Nat × Nat)
theorem pput_0 : pput h T A g c 167 = some (prO g c) := by simp [pput]
theorem pput_1 : pput h T A g c 168 = some (cA 60 T) := by simp [pput]
theorem pput_2 : pput h T A g c 169 = some (iA 3 A) := by simp [pput]
theorem pput_o {b : Nat} (hb : b < 167 ∨ 170 ≤ b) : pput h T A g c b = h b := by
  unfold pput; rw [if_neg (by omega), if_neg (by omega), if_neg (by omega)]
theorem ppu_0 (g' : Nat → Int32) (c' : Nat) : pu (pput h T A g c) 167 (prO g' c') = pput h T A g' c' := by
  funext b
  simp only [pu, pput]
  by_cases e : b = 167
  · rw [if_pos e, if_pos e]
  · rw [if_neg e, if_neg e, if_neg e]
theorem ppu_1 (T' : Nat → Int32) : pu (pput h T A g c) 168 (cA 60 T') = pput h T' A g c := by
  funext b
  simp only [pu, pput]
  by_cases e : b = 168
  · subst e; simp
  · simp [e]
theorem ppu_2 (A' : Nat → Int32) : pu (pput h T A g c) 169 (iA 3 A') = pput h T A' g c := by
  funext b
  simp only [pu, pput]
  by_cases e : b = 169
  · subst e; simp
  · simp [e]
theorem gp0 : gfd (pput h T A g c, r) 4 0 167 = some (.ref 168) := by simp [gfd, pput_0, prO]
theorem gp1 : gfd (pput h T A g c, r) 4 1 167 = some (.int (g 1)) := by simp [gfd, pput_0, prO]
theorem gp2 : gfd (pput h T A g c, r) 4 2 167 = some (.int (g 2)) := by simp [gfd, pput_0, prO]
theorem gp3 : gfd (pput h T A g c, r) 4 3 167 = some (.int (g 3)) := by simp [gfd, pput_0, prO]
theorem gp4 : gfd (pput h T A g c, r) 4 4 167 = some (.ref c) := by simp [gfd, pput_0, prO]
theorem gp5 : gfd (pput h T A g c, r) 4 5 167 = some (.ref 169) := by simp [gfd, pput_0, prO]
theorem gp6 : gfd (pput h T A g c, r) 4 6 167 = some (.int (g 6)) := by simp [gfd, pput_0, prO]
theorem rvP : recv (pput h T A g c, r) 167 4 = true := by simp [recv, pput_0, prO]
theorem wp1 (v : Int32) : pfd (pput h T A g c, r) true 4 1 167 (.int v) = some (pput h T A (up g 1 v) c, r) :=
  pfd_of (pput_0 h T A g c) (by decide) (by decide) rfl (by simpa [hsu, prO, up] using ppu_0 h T A g c (up g 1 v) c)
theorem wp2 (v : Int32) : pfd (pput h T A g c, r) true 4 2 167 (.int v) = some (pput h T A (up g 2 v) c, r) :=
  pfd_of (pput_0 h T A g c) (by decide) (by decide) rfl (by simpa [hsu, prO, up] using ppu_0 h T A g c (up g 2 v) c)
theorem wp3 (v : Int32) : pfd (pput h T A g c, r) true 4 3 167 (.int v) = some (pput h T A (up g 3 v) c, r) :=
  pfd_of (pput_0 h T A g c) (by decide) (by decide) rfl (by simpa [hsu, prO, up] using ppu_0 h T A g c (up g 3 v) c)
theorem wp6 (v : Int32) : pfd (pput h T A g c, r) true 4 6 167 (.int v) = some (pput h T A (up g 6 v) c, r) :=
  pfd_of (pput_0 h T A g c) (by decide) (by decide) rfl (by simpa [hsu, prO, up] using ppu_0 h T A g c (up g 6 v) c)
theorem wp4 (v : Nat) : pfd (pput h T A g c, r) true 4 4 167 (.ref v) = some (pput h T A g v, r) :=
  pfd_of (pput_0 h T A g c) (by decide) (by decide) rfl (by simpa [hsu, prO] using ppu_0 h T A g c g v)
theorem rdp1 {i : Int32} (h0 : ¬ i < 0) (h1 : i.toNatClampNeg < 60) : ald (pput h T A g c, r) 101 168 i = some (.int (T i.toNatClampNeg)) := by
  unfold ald
  simp only [pput_1]
  unfold cA
  simp only [List.length_map, List.length_range]
  rw [if_pos ⟨trivial, fun q => q.elim h0 (fun q => absurd q (by omega)), by decide⟩]
  exact iA_get h1
theorem wdp1 {i : Int32} (h0 : ¬ i < 0) (h1 : i.toNatClampNeg < 60) (v : Int32) : ast (pput h T A g c, r) 101 168 i (.int v) = some (pput h (up T i.toNatClampNeg v) A g c, r) := by
  unfold ast
  simp only [pput_1]
  unfold cA
  simp only [List.length_map, List.length_range]
  rw [if_pos ⟨trivial, by decide, fun q => q.elim h0 (fun q => absurd q (by omega))⟩, iA_set]
  have e := ppu_1 h T A g c (up T i.toNatClampNeg v)
  unfold cA at e
  rw [hsu, e]
theorem rdp2 {i : Int32} (h0 : ¬ i < 0) (h1 : i.toNatClampNeg < 3) : ald (pput h T A g c, r) 100 169 i = some (.int (A i.toNatClampNeg)) := ald_i (pput_2 h T A g c) h0 h1 (by decide)
theorem wdp2 {i : Int32} (h0 : ¬ i < 0) (h1 : i.toNatClampNeg < 3) (v : Int32) : ast (pput h T A g c, r) 100 169 i (.int v) = some (pput h T (up A i.toNatClampNeg v) g c, r) := by
  rw [ast_i (pput_2 h T A g c) (by decide) h0 h1, hsu, ppu_2]
end PPUT
section PROG
variable (h : PH) (T A g : Nat → Int32) (c : Nat) (r : Nat × Nat × Nat)
theorem m69 {n : Nat} (e : g 1 = I n) (h6 : n ≤ 60) : rcal 69 [.ref 167] (pput h T A g c, r) = some (.inl (some (.int (if n < 60 then 0 else 1))), (pput h T A g c, r)) := by
  by_cases q : n < 60
  · have a : I n < 60 := by rw [Z_lt, Z_I (by omega), show Z 60 = 60 from rfl]; omega
    simp only [c69, x69_0, x69_1, x69_4, x69_6, x69_9, x69_10, x69_14, x69_13, gk_some, pk_some, qk_some, bnd_v, bnd_n, kl_int, kl_ref, kl_null, kl_un, Nat.reduceAdd, if_true, if_false, gp0, gp1, gp2, gp3, gp4, gp5, gp6, rvP, wp1, wp2, wp3, wp4, wp6, e, a, q, fit1, fit0, fitb, b2i_t, b2i_f, reduceIte, decide_true, decide_false]
  · have a : ¬ I n < 60 := by rw [Z_lt, Z_I (by omega), show Z 60 = 60 from rfl]; omega
    simp only [c69, x69_0, x69_1, x69_4, x69_6, x69_9, x69_10, x69_14, x69_13, gk_some, pk_some, qk_some, bnd_v, bnd_n, kl_int, kl_ref, kl_null, kl_un, Nat.reduceAdd, if_true, if_false, gp0, gp1, gp2, gp3, gp4, gp5, gp6, rvP, wp1, wp2, wp3, wp4, wp6, e, a, q, fit1, fit0, fitb, b2i_t, b2i_f, reduceIte, decide_true, decide_false]
theorem m71 : rcal 71 [.ref 167] (pput h T A g c, r) = some (.inl none, (pput h T A (up g 1 0) c, r)) := by
  simp only [c71, x71_0, x71_1, x71_2, x71_5, gk_some, pk_some, qk_some, bnd_v, bnd_n, kl_int, kl_ref, kl_null, kl_un, Nat.reduceAdd, if_true, if_false, gp0, gp1, gp2, gp3, gp4, gp5, gp6, rvP, wp1, wp2, wp3, wp4, wp6]
theorem m72 : rcal 72 [.ref 167] (pput h T A g c, r) = some (.inl none, (pput h T A (up g 2 0) c, r)) := by
  simp only [c72, x72_0, x72_1, x72_2, x72_5, gk_some, pk_some, qk_some, bnd_v, bnd_n, kl_int, kl_ref, kl_null, kl_un, Nat.reduceAdd, if_true, if_false, gp0, gp1, gp2, gp3, gp4, gp5, gp6, rvP, wp1, wp2, wp3, wp4, wp6]
theorem m70 {n : Nat} (e : g 1 = I n) (h6 : n < 60) (v : Int32) : rcal 70 [.ref 167, .int v] (pput h T A g c, r) = some (.inl (some (.int (I (n + 1)))), (pput h (up T n (vp_nar .char v)) A (up g 1 (I (n + 1))) c, r)) := by
  have z := m69 h T A g c r e (by omega)
  rw [if_pos h6] at z
  have a := wdp1 h T A g c r (i := I n) (I_nn (by omega)) (by rw [I_nat (by omega)]; exact h6) (vp_nar .char v)
  rw [I_nat (by omega)] at a
  simp only [c70, x70_0, x70_1, x70_4, x70_7, x70_8, x70_11, x70_12, x70_15, x70_16, x70_17, x70_18, x70_19, x70_22, x70_23, x70_24, x70_27, x70_28, x70_31, gk_some, pk_some, qk_some, bnd_v, bnd_n, kl_int, kl_ref, kl_null, kl_un, Nat.reduceAdd, if_true, if_false, gp0, gp1, gp2, gp3, gp4, gp5, gp6, rvP, wp1, wp2, wp3, wp4, wp6, z, e, a, I_1, I_add, up_eq]
/-- the sign at pos -/
def sgn (T : Nat → Int32) (n : Nat) (c : Int32) (p : Nat) : Bool := decide (p < n) && decide (T p = c)
def dig (T : Nat → Int32) (n p : Nat) : Bool := decide (p < n) && (decide (¬ T p < 48) && decide (¬ 57 < T p))
theorem m80 {n p : Nat} (e1 : g 1 = I n) (e2 : g 2 = I p) (h6 : n ≤ 60) (hp : p ≤ 60) (v : Int32) : rcal 80 [.ref 167, .int v] (pput h T A g c, r) = some (.inl (some (.int (b2i (sgn T n v p)))), (pput h T A (if sgn T n v p = true then up g 2 (I (p + 1)) else g) c, r)) := by
  by_cases q : p < n
  · have a : I p < I n := (I_lt (by omega) (by omega)).mpr q
    have b := rdp1 h T A g c r (i := I p) (I_nn (by omega)) (by rw [I_nat (by omega)]; omega)
    rw [I_nat (by omega)] at b
    by_cases d : T p = v
    · have s : sgn T n v p = true := by simp [sgn, q, d]
      simp only [c80, x80_0, x80_1, x80_4, x80_5, x80_8, x80_11, x80_12, x80_15, x80_16, x80_19, x80_20, x80_21, x80_24, x80_25, x80_26, x80_27, x80_28, x80_31, x80_32, x80_33, x80_36, x80_37, gk_some, pk_some, qk_some, bnd_v, bnd_n, kl_int, kl_ref, kl_null, kl_un, Nat.reduceAdd, if_true, if_false, gp0, gp1, gp2, gp3, gp4, gp5, gp6, rvP, wp1, wp2, wp3, wp4, wp6, e1, e2, a, b, d, s, I_1, I_add, fit1, fit0, fitb, b2i_t, b2i_f, reduceIte, decide_true, decide_false]
    · have s : sgn T n v p = false := by simp [sgn, q, d]
      simp only [c80, x80_0, x80_1, x80_4, x80_5, x80_8, x80_11, x80_12, x80_15, x80_16, x80_19, x80_20, x80_21, x80_24, x80_25, x80_26, x80_27, x80_28, x80_31, x80_32, x80_33, x80_36, x80_37, gk_some, pk_some, qk_some, bnd_v, bnd_n, kl_int, kl_ref, kl_null, kl_un, Nat.reduceAdd, if_true, if_false, gp0, gp1, gp2, gp3, gp4, gp5, gp6, rvP, wp1, wp2, wp3, wp4, wp6, e1, e2, a, b, d, s, I_1, I_add, fit1, fit0, fitb, b2i_t, b2i_f, reduceIte, decide_true, decide_false]
      rfl
  · have a : ¬ I p < I n := fun z => q ((I_lt (by omega) (by omega)).mp z)
    have s : sgn T n v p = false := by simp [sgn, q]
    simp only [c80, x80_0, x80_1, x80_4, x80_5, x80_8, x80_11, x80_12, x80_15, x80_16, x80_19, x80_20, x80_21, x80_24, x80_25, x80_26, x80_27, x80_28, x80_31, x80_32, x80_33, x80_36, x80_37, gk_some, pk_some, qk_some, bnd_v, bnd_n, kl_int, kl_ref, kl_null, kl_un, Nat.reduceAdd, if_true, if_false, gp0, gp1, gp2, gp3, gp4, gp5, gp6, rvP, wp1, wp2, wp3, wp4, wp6, e1, e2, a, s, fit1, fit0, fitb, b2i_t, b2i_f, reduceIte, decide_true, decide_false]
    rfl
theorem m79 {n p : Nat} (e1 : g 1 = I n) (e2 : g 2 = I p) (h6 : n ≤ 60) (hp : p ≤ 60) : rcal 79 [.ref 167] (pput h T A g c, r) = some (.inl (some (.int (b2i (dig T n p)))), (pput h T A g c, r)) := by
  by_cases q : p < n
  · have a : I p < I n := (I_lt (by omega) (by omega)).mpr q
    have b := rdp1 h T A g c r (i := I p) (I_nn (by omega)) (by rw [I_nat (by omega)]; omega)
    rw [I_nat (by omega)] at b
    by_cases d : T p < 48
    · have s : dig T n p = false := by simp [dig, d]
      simp only [c79, x79_0, x79_1, x79_4, x79_5, x79_8, x79_11, x79_12, x79_15, x79_16, x79_19, x79_20, x79_22, x79_25, x79_26, x79_29, x79_30, x79_33, x79_34, x79_36, x79_39, x79_40, x79_44, x79_43, gk_some, pk_some, qk_some, bnd_v, bnd_n, kl_int, kl_ref, kl_null, kl_un, Nat.reduceAdd, if_true, if_false, gp0, gp1, gp2, gp3, gp4, gp5, gp6, rvP, wp1, wp2, wp3, wp4, wp6, e1, e2, a, b, d, s, fit1, fit0, fitb, b2i_t, b2i_f, reduceIte, decide_true, decide_false]
    · by_cases d2 : 57 < T p
      · have s : dig T n p = false := by simp [dig, d2]
        simp only [c79, x79_0, x79_1, x79_4, x79_5, x79_8, x79_11, x79_12, x79_15, x79_16, x79_19, x79_20, x79_22, x79_25, x79_26, x79_29, x79_30, x79_33, x79_34, x79_36, x79_39, x79_40, x79_44, x79_43, gk_some, pk_some, qk_some, bnd_v, bnd_n, kl_int, kl_ref, kl_null, kl_un, Nat.reduceAdd, if_true, if_false, gp0, gp1, gp2, gp3, gp4, gp5, gp6, rvP, wp1, wp2, wp3, wp4, wp6, e1, e2, a, b, d, d2, s, fit1, fit0, fitb, b2i_t, b2i_f, reduceIte, decide_true, decide_false]
      · have s : dig T n p = true := by simp [dig, q, d, d2]
        simp only [c79, x79_0, x79_1, x79_4, x79_5, x79_8, x79_11, x79_12, x79_15, x79_16, x79_19, x79_20, x79_22, x79_25, x79_26, x79_29, x79_30, x79_33, x79_34, x79_36, x79_39, x79_40, x79_44, x79_43, gk_some, pk_some, qk_some, bnd_v, bnd_n, kl_int, kl_ref, kl_null, kl_un, Nat.reduceAdd, if_true, if_false, gp0, gp1, gp2, gp3, gp4, gp5, gp6, rvP, wp1, wp2, wp3, wp4, wp6, e1, e2, a, b, d, d2, s, fit1, fit0, fitb, b2i_t, b2i_f, reduceIte, decide_true, decide_false]
  · have a : ¬ I p < I n := fun z => q ((I_lt (by omega) (by omega)).mp z)
    have s : dig T n p = false := by simp [dig, q]
    simp only [c79, x79_0, x79_1, x79_4, x79_5, x79_8, x79_11, x79_12, x79_15, x79_16, x79_19, x79_20, x79_22, x79_25, x79_26, x79_29, x79_30, x79_33, x79_34, x79_36, x79_39, x79_40, x79_44, x79_43, gk_some, pk_some, qk_some, bnd_v, bnd_n, kl_int, kl_ref, kl_null, kl_un, Nat.reduceAdd, if_true, if_false, gp0, gp1, gp2, gp3, gp4, gp5, gp6, rvP, wp1, wp2, wp3, wp4, wp6, e1, e2, a, s, fit1, fit0, fitb, b2i_t, b2i_f, reduceIte, decide_true, decide_false]
theorem up_self (f : Nat → Int32) (j : Nat) : up f j (f j) = f := by
  funext i; unfold up; split
  · next e => rw [e]
  · rfl
/-- the digits from pos on, at most k of them -/
def numR (T : Nat → Int32) (n : Nat) : Nat → Nat → Nat → Int32 → Nat × Nat × Int32
  | 0, d, p, v => (d, p, v)
  | k + 1, d, p, v => if dig T n p = true then numR T n k (d + 1) (p + 1) (v * 10 + (T p - 48)) else (d, p, v)
theorem numR_p (n : Nat) : ∀ (k d p : Nat) (v : Int32), p ≤ 60 → n ≤ 60 → (numR T n k d p v).2.1 ≤ 60 ∧ (numR T n k d p v).1 ≤ d + k ∧ d ≤ (numR T n k d p v).1 ∧ p ≤ (numR T n k d p v).2.1
  | 0, d, p, v, hp, hn => ⟨hp, by simp [numR], by simp [numR], by simp [numR]⟩
  | k + 1, d, p, v, hp, hn => by
    unfold numR
    split
    · next q =>
      have hq : p < n := by unfold dig at q; simp only [Bool.and_eq_true, decide_eq_true_eq] at q; exact q.1
      have z := numR_p n k (d + 1) (p + 1) (v * 10 + (T p - 48)) (by omega) hn
      refine ⟨z.1, by omega, by omega, by omega⟩
    · exact ⟨hp, by simp, by simp, by simp⟩
theorem l78 {n m : Nat} (h6 : n ≤ 60) (hm : m < 10) : ∀ (k d p : Nat) (v : Int32) (g : Nat → Int32), g 1 = I n → g 2 = I p → p ≤ 60 → d + k = m → rn 78 4 [.ref 167, .int (I m), .int (I d), .int v] [] (pput h T A g c, r) = rn 78 50 [.ref 167, .int (I m), .int (I (numR T n k d p v).1), .int (numR T n k d p v).2.2] [] (pput h T A (up g 2 (I (numR T n k d p v).2.1)) c, r) := by
  intro k
  induction k with
  | zero =>
    intro d p v g e1 e2 hp hd
    have a : ¬ I d < I m := fun z => by have := (I_lt (by omega) (by omega)).mp z; omega
    have eg : up g 2 (I p) = g := by rw [← e2]; exact up_self g 2
    rw [x78_4, x78_5, x78_6, if_neg a]
    simp only [numR, eg]
  | succ k ih =>
    intro d p v g e1 e2 hp hd
    have a : I d < I m := (I_lt (by omega) (by omega)).mpr (by omega)
    have z := m79 h T A g c r e1 e2 h6 hp
    rw [x78_4, x78_5, x78_6, if_pos a]
    unfold numR
    cases q : dig T n p with
    | false =>
      rw [q] at z
      have eg : up g 2 (I p) = g := by rw [← e2]; exact up_self g 2
      simp only [x78_0, x78_1, x78_2, x78_3, x78_5, x78_6, x78_9, x78_10, x78_13, x78_16, x78_17, x78_19, x78_20, x78_21, x78_24, x78_25, x78_28, x78_29, x78_31, x78_32, x78_33, x78_34, x78_35, x78_36, x78_39, x78_40, x78_41, x78_44, x78_47, x78_51, x78_54, x78_55, x78_58, x78_59, x78_62, x78_63, x78_64, x78_65, x78_68, x78_69, x78_72, x78_73, x78_74, x78_75, x78_76, x78_79, x78_80, x78_81, x78_84, x78_85, gk_some, pk_some, qk_some, bnd_v, bnd_n, kl_int, kl_ref, kl_null, kl_un, Nat.reduceAdd, if_true, if_false, gp0, gp1, gp2, gp3, gp4, gp5, gp6, rvP, wp1, wp2, wp3, wp4, wp6, z, eg, fit1, fit0, fitb, b2i_t, b2i_f, reduceIte, decide_true, decide_false, Bool.false_eq_true]
    | true =>
      rw [q] at z
      have hq : p < n := by unfold dig at q; simp only [Bool.and_eq_true, decide_eq_true_eq] at q; exact q.1
      have b := rdp1 h T A g c r (i := I p) (I_nn (by omega)) (by rw [I_nat (by omega)]; omega)
      rw [I_nat (by omega)] at b
      have i2 := ih (d + 1) (p + 1) (v * 10 + (T p - 48)) (up g 2 (I (p + 1))) (by simp [up, e1]) (by simp [up]) (by omega) (by omega)
      rw [up_up] at i2
      have o1 : ¬ (1 : Int32) = 0 := by decide
      simp only [x78_0, x78_1, x78_2, x78_3, x78_5, x78_6, x78_9, x78_10, x78_13, x78_16, x78_17, x78_19, x78_20, x78_21, x78_24, x78_25, x78_28, x78_29, x78_31, x78_32, x78_33, x78_34, x78_35, x78_36, x78_39, x78_40, x78_41, x78_44, x78_47, x78_51, x78_54, x78_55, x78_58, x78_59, x78_62, x78_63, x78_64, x78_65, x78_68, x78_69, x78_72, x78_73, x78_74, x78_75, x78_76, x78_79, x78_80, x78_81, x78_84, x78_85, gk_some, pk_some, qk_some, bnd_v, bnd_n, kl_int, kl_ref, kl_null, kl_un, Nat.reduceAdd, if_true, if_false, gp0, gp1, gp2, gp3, gp4, gp5, gp6, rvP, wp1, wp2, wp3, wp4, wp6, z, e2, b, I_1, i2, o1, fit1, fit0, fitb, b2i_t, b2i_f, reduceIte, decide_true, decide_false]
/-- a number is taken: does it go, where to, its value -/
def tkN (T : Nat → Int32) (n m p a : Nat) : Bool := decide (0 < (numR T n m 0 p 0).1) && decide (a < 3)
theorem m78 {n m p a : Nat} (e1 : g 1 = I n) (e2 : g 2 = I p) (e6 : g 6 = I a) (h6 : n ≤ 60) (hp : p ≤ 60) (ha : a ≤ 3) (hm : m < 10) : rcal 78 [.ref 167, .int (I m)] (pput h T A g c, r) = some (.inl (some (.int (b2i (tkN T n m p a)))), (pput h T (if tkN T n m p a = true then up A a (numR T n m 0 p 0).2.2 else A) (if tkN T n m p a = true then up (up g 2 (I (numR T n m 0 p 0).2.1)) 6 (I (a + 1)) else up g 2 (I (numR T n m 0 p 0).2.1)) c, r)) := by
  have z := l78 h T A c r h6 hm m 0 p 0 g e1 e2 hp (by omega)
  have np := numR_p (T := T) n m 0 p 0 hp h6
  simp only [c78, x78_0, x78_1, x78_2, x78_3, gk_some, pk_some, qk_some, bnd_v, bnd_n, kl_int, kl_ref, kl_null, kl_un, Nat.reduceAdd, if_true, if_false, un]
  refine Eq.trans z ?_
  by_cases q : 0 < (numR T n m 0 p 0).1
  · have o1 : ¬ I (numR T n m 0 p 0).1 = 0 := fun y => by
      have y2 : Z (I (numR T n m 0 p 0).1) = 0 := by rw [y]; rfl
      rw [Z_I (by omega)] at y2; omega
    by_cases q2 : a < 3
    · have o2 : I a < 3 := (I_lt (b := 3) (by omega) (by decide)).mpr q2
      have s : tkN T n m p a = true := by simp [tkN, q, q2]
      have w2 := wdp2 h T A (up g 2 (I (numR T n m 0 p 0).2.1)) c r (i := I a) (I_nn (by omega)) (by rw [I_nat (by omega)]; exact q2) (numR T n m 0 p 0).2.2
      rw [I_nat (by omega)] at w2
      have e6' : up g 2 (I (numR T n m 0 p 0).2.1) 6 = I a := by rw [up_ne _ _ (by decide)]; exact e6
      simp only [x78_0, x78_1, x78_2, x78_3, x78_5, x78_6, x78_9, x78_10, x78_13, x78_16, x78_17, x78_19, x78_20, x78_21, x78_24, x78_25, x78_28, x78_29, x78_31, x78_32, x78_33, x78_34, x78_35, x78_36, x78_39, x78_40, x78_41, x78_44, x78_47, x78_50, x78_51, x78_54, x78_55, x78_58, x78_59, x78_62, x78_63, x78_64, x78_65, x78_68, x78_69, x78_72, x78_73, x78_74, x78_75, x78_76, x78_79, x78_80, x78_81, x78_84, x78_85, gk_some, pk_some, qk_some, bnd_v, bnd_n, kl_int, kl_ref, kl_null, kl_un, Nat.reduceAdd, if_true, if_false, gp0, gp1, gp2, gp3, gp4, gp5, gp6, rvP, wp1, wp2, wp3, wp4, wp6, o1, e6', o2, s, w2, I_1, fit1, fit0, fitb, b2i_t, b2i_f, reduceIte, decide_true, decide_false]
    · have o2 : ¬ I a < 3 := fun y => q2 ((I_lt (b := 3) (by omega) (by decide)).mp y)
      have s : tkN T n m p a = false := by simp [tkN, q2]
      have e6' : up g 2 (I (numR T n m 0 p 0).2.1) 6 = I a := by rw [up_ne _ _ (by decide)]; exact e6
      simp only [x78_0, x78_1, x78_2, x78_3, x78_5, x78_6, x78_9, x78_10, x78_13, x78_16, x78_17, x78_19, x78_20, x78_21, x78_24, x78_25, x78_28, x78_29, x78_31, x78_32, x78_33, x78_34, x78_35, x78_36, x78_39, x78_40, x78_41, x78_44, x78_47, x78_50, x78_51, x78_54, x78_55, x78_58, x78_59, x78_62, x78_63, x78_64, x78_65, x78_68, x78_69, x78_72, x78_73, x78_74, x78_75, x78_76, x78_79, x78_80, x78_81, x78_84, x78_85, gk_some, pk_some, qk_some, bnd_v, bnd_n, kl_int, kl_ref, kl_null, kl_un, Nat.reduceAdd, if_true, if_false, gp0, gp1, gp2, gp3, gp4, gp5, gp6, rvP, wp1, wp2, wp3, wp4, wp6, o1, e6', o2, s, fit1, fit0, fitb, b2i_t, b2i_f, reduceIte, decide_true, decide_false, Bool.false_eq_true]
  · have o1 : I (numR T n m 0 p 0).1 = 0 := by rw [show (numR T n m 0 p 0).1 = 0 by omega]; rfl
    have s : tkN T n m p a = false := by simp [tkN, q]
    simp only [x78_0, x78_1, x78_2, x78_3, x78_5, x78_6, x78_9, x78_10, x78_13, x78_16, x78_17, x78_19, x78_20, x78_21, x78_24, x78_25, x78_28, x78_29, x78_31, x78_32, x78_33, x78_34, x78_35, x78_36, x78_39, x78_40, x78_41, x78_44, x78_47, x78_50, x78_51, x78_54, x78_55, x78_58, x78_59, x78_62, x78_63, x78_64, x78_65, x78_68, x78_69, x78_72, x78_73, x78_74, x78_75, x78_76, x78_79, x78_80, x78_81, x78_84, x78_85, gk_some, pk_some, qk_some, bnd_v, bnd_n, kl_int, kl_ref, kl_null, kl_un, Nat.reduceAdd, if_true, if_false, gp0, gp1, gp2, gp3, gp4, gp5, gp6, rvP, wp1, wp2, wp3, wp4, wp6, o1, s, fit1, fit0, fitb, b2i_t, b2i_f, reduceIte, decide_true, decide_false, Bool.false_eq_true]
end PROG
