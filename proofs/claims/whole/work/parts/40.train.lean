/-! the trains' own methods -/
abbrev b2i (b : Bool) : Int32 := if b = true then 1 else 0
theorem fitb (b : Bool) : fitp 1 (.int (b2i b)) = true := by cases b <;> decide
theorem fit1 : fitp 1 (.int 1) = true := rfl
theorem fit0 : fitp 1 (.int 0) = true := rfl
theorem b2i_t : b2i true = 1 := rfl
theorem b2i_f : b2i false = 0 := rfl
def lvB (t u : TR) : Bool := if t.2 4 = u.2 4 then decide (t.2 1 < u.2 1) else decide (t.2 4 < u.2 4)
def rkB (t u : TR) : Bool := if t.2 10 = u.2 10 then (if t.2 5 = u.2 5 then decide (t.2 1 < u.2 1) else decide (t.2 5 < u.2 5)) else decide (u.2 10 < t.2 10)
def stp_ (t : TR) : Int32 := if t.2 2 < t.2 3 then 1 else -1
section TRAIN
variable (h : PH) {p : Nat} (f tk rt ps : Nat → Int32) (S : List SL) (r : Nat × Nat × Nat) {j i : Nat}
theorem m82 (hj : has S j) (hq : 1 ≤ (tr S j).1 ∧ (tr S j).1 ≤ 4) : rcal 82 [.ref (p + 5 + j)] (put h p f tk rt ps S, r) = some (.inl (some (.int (b2i (decide ((tr S j).1 ≠ 1))))), (put h p f tk rt ps S, r)) := by
  simp only [c82, x82_0, x82_1, x82_4, x82_7, x82_10, x82_11, x82_15, x82_14, gk_some, pk_some, qk_some, bnd_v, bnd_n, kl_int, kl_ref, kl_null, kl_un, Nat.reduceAdd, if_true, if_false, gt0, gt1, gt2, gt3, gt4, gt5, gt6, gt7, gt8, gt9, gt10, gt11, hj, req_pl hq (by decide : 1 ≤ 1 ∧ 1 ≤ 4)]
  by_cases e : (tr S j).1 = 1
  · simp only [e, fit1, fit0, fitb, b2i_t, b2i_f, reduceIte, decide_true, decide_false, ne_eq, not_true_eq_false]
  · simp only [e, fit1, fit0, fitb, b2i_t, b2i_f, reduceIte, decide_true, decide_false, ne_eq, not_false_eq_true, Bool.false_eq_true]
theorem m83 (hj : has S j) (hq : 1 ≤ (tr S j).1 ∧ (tr S j).1 ≤ 4) (v : Int32) : rcal 83 [.ref (p + 5 + j), .int v] (put h p f tk rt ps S, r) = some (.inl (some (.int (b2i (decide ((tr S j).1 = 3 ∧ (tr S j).2 6 = v))))), (put h p f tk rt ps S, r)) := by
  simp only [c83, x83_0, x83_1, x83_4, x83_7, x83_10, x83_11, x83_14, x83_15, x83_18, x83_19, x83_23, x83_22, gk_some, pk_some, qk_some, bnd_v, bnd_n, kl_int, kl_ref, kl_null, kl_un, Nat.reduceAdd, if_true, if_false, gt0, gt1, gt2, gt3, gt4, gt5, gt6, gt7, gt8, gt9, gt10, gt11, hj, req_pl hq (by decide : 1 ≤ 3 ∧ 3 ≤ 4)]
  by_cases e : (tr S j).1 = 3
  · by_cases e2 : (tr S j).2 6 = v
    · simp only [e, e2, fit1, fit0, fitb, b2i_t, b2i_f, reduceIte, decide_true, decide_false, and_self]
    · simp only [e, e2, fit1, fit0, fitb, b2i_t, b2i_f, reduceIte, decide_true, decide_false, and_false, Bool.false_eq_true]
  · simp only [e, fit1, fit0, fitb, b2i_t, b2i_f, reduceIte, decide_true, decide_false, false_and, Bool.false_eq_true]
theorem m84 (hj : has S j) : rcal 84 [.ref (p + 5 + j)] (put h p f tk rt ps S, r) = some (.inl (some (.int (stp_ (tr S j)))), (put h p f tk rt ps S, r)) := by
  simp only [c84, x84_0, x84_1, x84_4, x84_5, x84_8, x84_11, x84_12, x84_16, x84_15, gk_some, pk_some, qk_some, bnd_v, bnd_n, kl_int, kl_ref, kl_null, kl_un, Nat.reduceAdd, if_true, if_false, gt0, gt1, gt2, gt3, gt4, gt5, gt6, gt7, gt8, gt9, gt10, gt11, hj]
  by_cases e : (tr S j).2 2 < (tr S j).2 3
  · simp only [e, fit1, fit0, fitb, b2i_t, b2i_f, reduceIte, decide_true, decide_false, stp_]
  · simp only [e, fit1, fit0, fitb, b2i_t, b2i_f, reduceIte, decide_true, decide_false, stp_]
theorem m85 (hp : 32 ≤ p) (hj : has S j) (v w : Int32) : rcal 85 [.ref (p + 5 + j), .int v, .int w] (put h p f tk rt ps S, r) = some (.inl none, (put h p f tk rt ps (upS S j (3, up (up (tr S j).2 6 v) 11 w)), r)) := by
  simp only [c85, x85_0, x85_1, x85_4, x85_7, x85_8, x85_9, x85_12, x85_13, x85_14, x85_17, gk_some, pk_some, qk_some, bnd_v, bnd_n, kl_int, kl_ref, kl_null, kl_un, Nat.reduceAdd, if_true, if_false, pt0, pt1, pt2, pt3, pt4, pt5, pt6, pt7, pt8, pt9, pt10, pt11, hp, hj, has_up, tr_up, upS_upS]
theorem m86 (hp : 32 ≤ p) (hj : has S j) (u v w : Int32) : rcal 86 [.ref (p + 5 + j), .int u, .int v, .int w] (put h p f tk rt ps S, r) = some (.inl none, (put h p f tk rt ps (upS S j (4, up (up (up (tr S j).2 7 u) 6 v) 8 w)), r)) := by
  simp only [c86, x86_0, x86_1, x86_4, x86_7, x86_8, x86_9, x86_12, x86_13, x86_14, x86_17, x86_18, x86_19, x86_22, gk_some, pk_some, qk_some, bnd_v, bnd_n, kl_int, kl_ref, kl_null, kl_un, Nat.reduceAdd, if_true, if_false, pt0, pt1, pt2, pt3, pt4, pt5, pt6, pt7, pt8, pt9, pt10, pt11, hp, hj, has_up, tr_up, upS_upS]
theorem m87 (hj : has S j) (hi : has S i) : rcal 87 [.ref (p + 5 + j), .ref (p + 5 + i)] (put h p f tk rt ps S, r) = some (.inl (some (.int (b2i (lvB (tr S j) (tr S i))))), (put h p f tk rt ps S, r)) := by
  simp only [c87, x87_0, x87_1, x87_4, x87_5, x87_8, x87_11, x87_12, x87_15, x87_16, x87_19, x87_22, x87_23, x87_27, x87_26, x87_28, x87_29, x87_32, x87_33, x87_36, x87_39, x87_40, x87_44, x87_43, gk_some, pk_some, qk_some, bnd_v, bnd_n, kl_int, kl_ref, kl_null, kl_un, Nat.reduceAdd, if_true, if_false, gt0, gt1, gt2, gt3, gt4, gt5, gt6, gt7, gt8, gt9, gt10, gt11, hj, hi]
  by_cases e : (tr S j).2 4 = (tr S i).2 4
  · by_cases e2 : (tr S j).2 1 < (tr S i).2 1
    · simp only [e, e2, fit1, fit0, fitb, b2i_t, b2i_f, reduceIte, decide_true, decide_false, lvB]
    · simp only [e, e2, fit1, fit0, fitb, b2i_t, b2i_f, reduceIte, decide_true, decide_false, lvB, Bool.false_eq_true]
  · by_cases e2 : (tr S j).2 4 < (tr S i).2 4
    · simp only [e, e2, fit1, fit0, fitb, b2i_t, b2i_f, reduceIte, decide_true, decide_false, lvB]
    · simp only [e, e2, fit1, fit0, fitb, b2i_t, b2i_f, reduceIte, decide_true, decide_false, lvB, Bool.false_eq_true]
theorem m88 (hj : has S j) (hi : has S i) : rcal 88 [.ref (p + 5 + j), .ref (p + 5 + i)] (put h p f tk rt ps S, r) = some (.inl (some (.int (b2i (rkB (tr S j) (tr S i))))), (put h p f tk rt ps S, r)) := by
  simp only [c88, x88_0, x88_1, x88_4, x88_5, x88_8, x88_11, x88_12, x88_15, x88_16, x88_19, x88_22, x88_23, x88_27, x88_26, x88_28, x88_29, x88_32, x88_33, x88_36, x88_39, x88_40, x88_43, x88_44, x88_47, x88_50, x88_51, x88_55, x88_54, x88_56, x88_57, x88_60, x88_61, x88_64, x88_67, x88_68, x88_72, x88_71, gk_some, pk_some, qk_some, bnd_v, bnd_n, kl_int, kl_ref, kl_null, kl_un, Nat.reduceAdd, if_true, if_false, gt0, gt1, gt2, gt3, gt4, gt5, gt6, gt7, gt8, gt9, gt10, gt11, hj, hi]
  by_cases e : (tr S j).2 10 = (tr S i).2 10
  · by_cases e3 : (tr S j).2 5 = (tr S i).2 5
    · by_cases e2 : (tr S j).2 1 < (tr S i).2 1
      · simp only [e, e2, e3, fit1, fit0, fitb, b2i_t, b2i_f, reduceIte, decide_true, decide_false, rkB]
      · simp only [e, e2, e3, fit1, fit0, fitb, b2i_t, b2i_f, reduceIte, decide_true, decide_false, rkB, Bool.false_eq_true]
    · by_cases e2 : (tr S j).2 5 < (tr S i).2 5
      · simp only [e, e2, e3, fit1, fit0, fitb, b2i_t, b2i_f, reduceIte, decide_true, decide_false, rkB]
      · simp only [e, e2, e3, fit1, fit0, fitb, b2i_t, b2i_f, reduceIte, decide_true, decide_false, rkB, Bool.false_eq_true]
  · by_cases e2 : (tr S i).2 10 < (tr S j).2 10
    · simp only [e, e2, fit1, fit0, fitb, b2i_t, b2i_f, reduceIte, decide_true, decide_false, rkB]
    · simp only [e, e2, fit1, fit0, fitb, b2i_t, b2i_f, reduceIte, decide_true, decide_false, rkB, Bool.false_eq_true]
end TRAIN
