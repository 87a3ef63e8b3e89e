/-! the line's own queries -/
/-- a line's trains: six, each at its place, with a state that is one -/
def WS (S : List SL) : Prop := S.length = 6 ∧ NDH S ∧ PLS S ∧ (∀ s, s ∈ S → s.1 < 6) ∧ ∀ s, s ∈ S → fitp 1 (.int (s.2.2 9)) = true
def refO (p : Nat) (o : Option SL) : Value := match o with
  | some s => .ref (p + 5 + s.1)
  | none => .null
theorem mid_ {S D R : List SL} {s : SL} (w : WS S) (hS : S = D ++ s :: R) : has S s.1 ∧ tr S s.1 = s.2 ∧ (1 ≤ s.2.1 ∧ s.2.1 ≤ 4) ∧ I D.length < I 6 ∧ D.length < 6 := by
  have hl := w.1
  have h6 : D.length < 6 := by rw [hS] at hl; simp at hl; omega
  exact ⟨has_mid w.2.1 hS, tr_mid w.2.1 hS, w.2.2.1 s (by rw [hS]; simp), (I_lt (by omega) (by decide)).mpr h6, h6⟩
theorem end_ {S D : List SL} (w : WS S) (hS : S = D ++ []) : D.length = 6 := by
  have hl := w.1; rw [hS] at hl; simpa using hl
theorem sub_ {S D R : List SL} {s : SL} (hS : S = D ++ s :: R) : S = (D ++ [s]) ++ R := by rw [hS]; simp
theorem len_ (D : List SL) (s : SL) : I D.length + 1 = I (D ++ [s]).length := by rw [I_1]; simp
theorem ne10 : ¬ (1 : Int32) = 0 := by decide
theorem eq00 : ((0 : Int32) = 0) = True := by simp
theorem nlt6 : ¬ I 6 < I 6 := by decide
section LEAF
variable (h : PH) {p : Nat} (f tk rt ps : Nat → Int32) (S : List SL) (r : Nat × Nat × Nat) {j i : Nat}
def fndP (v : Int32) (s : SL) : Bool := decide (s.2.1 ≠ 1) && decide (s.2.2 1 = v)
def holP (v : Int32) (s : SL) : Bool := decide (s.2.1 = 4) && decide (s.2.2 7 = v)
theorem l58 (w : WS S) (v : Int32) : ∀ (R D : List SL) (i : Int32) (z : Value), S = D ++ R → i = I D.length → rn 58 11 [.ref p, .int v, .ref (p + 4), .int (I 6), .int i, z] [] (put h p f tk rt ps S, r) = some (.inl (some (refO p (R.find? (fndP v)))), (put h p f tk rt ps S, r)) := by
  intro R
  induction R with
  | nil =>
    intro D i z hS hi
    have hl := end_ w hS
    rw [x58_11]
    simp only [x58_0, x58_1, x58_4, x58_5, x58_6, x58_7, x58_8, x58_9, x58_13, x58_14, x58_17, x58_18, x58_20, x58_21, x58_23, x58_25, x58_28, x58_31, x58_33, x58_36, x58_37, x58_40, x58_40n, x58_42, x58_42a, x58_43, x58_46, x58_49, x58_50, gk_some, pk_some, qk_some, bnd_v, bnd_n, kl_int, kl_ref, kl_null, kl_un, Nat.reduceAdd, if_true, if_false, hi, hl, nlt6, List.find?_nil, refO]
  | cons s R ih =>
    intro D i z hS hi
    obtain ⟨h1, h2, h3, h4, h5⟩ := mid_ w hS
    have ha := at_mid h f tk rt ps S r (p := p) hS (by rw [w.1]; decide)
    have hm := m82 h f tk rt ps S r (p := p) h1 (by rw [h2]; exact h3)
    have ih' := ih (D ++ [s]) (I D.length + 1) (.ref (p + 5 + s.1)) (sub_ hS) (len_ D s)
    rw [x58_11]
    simp only [x58_0, x58_1, x58_4, x58_5, x58_6, x58_7, x58_8, x58_9, x58_13, x58_14, x58_17, x58_18, x58_20, x58_21, x58_23, x58_25, x58_28, x58_31, x58_33, x58_36, x58_37, x58_40, x58_40n, x58_42, x58_42a, x58_43, x58_46, x58_49, x58_50, gk_some, pk_some, qk_some, bnd_v, bnd_n, kl_int, kl_ref, kl_null, kl_un, Nat.reduceAdd, if_true, if_false, gt0, gt1, gt2, gt3, gt4, gt5, gt6, gt7, gt8, gt9, gt10, gt11, rvL, rvT, alL, ln1, ln2, ln3, h1, hi, h4, ha, hm, h2]
    by_cases e : s.2.1 = 1
    · have e2 : fndP v s = false := by simp [fndP, e]
      simp only [e, fit1, fit0, fitb, b2i_t, b2i_f, reduceIte, decide_true, decide_false, ne_eq, not_true_eq_false, Bool.false_eq_true, ih', List.find?_cons, e2]
    · by_cases e3 : s.2.2 1 = v
      · have e2 : fndP v s = true := by simp [fndP, e, e3]
        simp only [e, fit1, fit0, fitb, b2i_t, b2i_f, reduceIte, decide_true, decide_false, ne_eq, not_false_eq_true, ne10, e3, List.find?_cons, e2, refO]
      · have e2 : fndP v s = false := by simp [fndP, e, e3]
        simp only [e, fit1, fit0, fitb, b2i_t, b2i_f, reduceIte, decide_true, decide_false, ne_eq, not_false_eq_true, ne10, e3, ih', List.find?_cons, e2]
theorem m58 (w : WS S) (v : Int32) : rcal 58 [.ref p, .int v] (put h p f tk rt ps S, r) = some (.inl (some (refO p (S.find? (fndP v)))), (put h p f tk rt ps S, r)) := by
  have e := l58 h f tk rt ps S r (p := p) w v S [] 0 un rfl rfl
  simp only [c58, x58_0, x58_1, x58_4, x58_5, x58_6, x58_7, x58_8, x58_9, x58_13, x58_14, x58_17, x58_18, x58_20, x58_21, x58_23, x58_25, x58_28, x58_31, x58_33, x58_36, x58_37, x58_40, x58_40n, x58_42, x58_42a, x58_43, x58_46, x58_49, x58_50, gk_some, pk_some, qk_some, bnd_v, bnd_n, kl_int, kl_ref, kl_null, kl_un, Nat.reduceAdd, if_true, if_false, gl0, gl1, gl2, gl3, gl4, gl5, gl6, gl7, gl8, gl9, gl10, gl11, gl12, rvL, rvT, alL, ln1, ln2, ln3, w.1, e]
theorem l59 (w : WS S) (v : Int32) : ∀ (R D : List SL) (i : Int32) (z : Value), S = D ++ R → i = I D.length → rn 59 11 [.ref p, .int v, .ref (p + 4), .int (I 6), .int i, z] [] (put h p f tk rt ps S, r) = some (.inl (some (refO p (R.find? (holP v)))), (put h p f tk rt ps S, r)) := by
  intro R
  induction R with
  | nil =>
    intro D i z hS hi
    have hl := end_ w hS
    rw [x59_11]
    simp only [x59_0, x59_1, x59_4, x59_5, x59_6, x59_7, x59_8, x59_9, x59_13, x59_14, x59_17, x59_18, x59_20, x59_21, x59_23, x59_25, x59_28, x59_31, x59_34, x59_36, x59_39, x59_40, x59_43, x59_43n, x59_45, x59_45a, x59_46, x59_49, x59_52, x59_53, gk_some, pk_some, qk_some, bnd_v, bnd_n, kl_int, kl_ref, kl_null, kl_un, Nat.reduceAdd, if_true, if_false, hi, hl, nlt6, List.find?_nil, refO]
  | cons s R ih =>
    intro D i z hS hi
    obtain ⟨h1, h2, h3, h4, h5⟩ := mid_ w hS
    have ha := at_mid h f tk rt ps S r (p := p) hS (by rw [w.1]; decide)
    have ih' := ih (D ++ [s]) (I D.length + 1) (.ref (p + 5 + s.1)) (sub_ hS) (len_ D s)
    rw [x59_11]
    simp only [x59_0, x59_1, x59_4, x59_5, x59_6, x59_7, x59_8, x59_9, x59_13, x59_14, x59_17, x59_18, x59_20, x59_21, x59_23, x59_25, x59_28, x59_31, x59_34, x59_36, x59_39, x59_40, x59_43, x59_43n, x59_45, x59_45a, x59_46, x59_49, x59_52, x59_53, gk_some, pk_some, qk_some, bnd_v, bnd_n, kl_int, kl_ref, kl_null, kl_un, Nat.reduceAdd, if_true, if_false, gt0, gt1, gt2, gt3, gt4, gt5, gt6, gt7, gt8, gt9, gt10, gt11, rvL, rvT, alL, ln1, ln2, ln3, h1, hi, h4, ha, h2, req_pl h3 (by decide : 1 ≤ 4 ∧ 4 ≤ 4)]
    by_cases e : s.2.1 = 4
    · by_cases e3 : s.2.2 7 = v
      · have e2 : holP v s = true := by simp [holP, e, e3]
        simp only [e, fit1, fit0, fitb, b2i_t, b2i_f, reduceIte, decide_true, decide_false, e3, List.find?_cons, e2, refO]
      · have e2 : holP v s = false := by simp [holP, e3]
        simp only [e, fit1, fit0, fitb, b2i_t, b2i_f, reduceIte, decide_true, decide_false, e3, ih', List.find?_cons, e2]
    · have e2 : holP v s = false := by simp [holP, e]
      simp only [e, fit1, fit0, fitb, b2i_t, b2i_f, reduceIte, decide_true, decide_false, ih', List.find?_cons, e2, Bool.false_eq_true]
theorem m59 (w : WS S) (v : Int32) : rcal 59 [.ref p, .int v] (put h p f tk rt ps S, r) = some (.inl (some (refO p (S.find? (holP v)))), (put h p f tk rt ps S, r)) := by
  have e := l59 h f tk rt ps S r (p := p) w v S [] 0 un rfl rfl
  simp only [c59, x59_0, x59_1, x59_4, x59_5, x59_6, x59_7, x59_8, x59_9, x59_13, x59_14, x59_17, x59_18, x59_20, x59_21, x59_23, x59_25, x59_28, x59_31, x59_34, x59_36, x59_39, x59_40, x59_43, x59_43n, x59_45, x59_45a, x59_46, x59_49, x59_52, x59_53, gk_some, pk_some, qk_some, bnd_v, bnd_n, kl_int, kl_ref, kl_null, kl_un, Nat.reduceAdd, if_true, if_false, gl0, gl1, gl2, gl3, gl4, gl5, gl6, gl7, gl8, gl9, gl10, gl11, gl12, rvL, rvT, alL, ln1, ln2, ln3, w.1, e]
theorem m55 (v : Int32) : rcal 55 [.ref p, .int v] (put h p f tk rt ps S, r) = some (.inl (some (.int (b2i (decide (¬ v < 0 ∧ v < f 0))))), (put h p f tk rt ps S, r)) := by
  simp only [c55, x55_0, x55_1, x55_4, x55_5, x55_6, x55_9, x55_12, x55_13, x55_17, x55_16, gk_some, pk_some, qk_some, bnd_v, bnd_n, kl_int, kl_ref, kl_null, kl_un, Nat.reduceAdd, if_true, if_false, gl0, gl1, gl2, gl3, gl4, gl5, gl6, gl7, gl8, gl9, gl10, gl11, gl12]
  by_cases e : v < 0
  · simp only [e, fit1, fit0, fitb, b2i_t, b2i_f, reduceIte, decide_true, decide_false, not_true_eq_false, false_and, Bool.false_eq_true]
  · by_cases e2 : v < f 0
    · simp only [e, e2, fit1, fit0, fitb, b2i_t, b2i_f, reduceIte, decide_true, decide_false, not_false_eq_true, and_self]
    · simp only [e, e2, fit1, fit0, fitb, b2i_t, b2i_f, reduceIte, decide_true, decide_false, and_false, Bool.false_eq_true]
theorem m56 (v : Int32) : rcal 56 [.ref p, .int v] (put h p f tk rt ps S, r) = some (.inl (some (.int (b2i (decide (¬ v < 0 ∧ v < f 0 - 1))))), (put h p f tk rt ps S, r)) := by
  simp only [c56, x56_0, x56_1, x56_4, x56_5, x56_6, x56_9, x56_10, x56_11, x56_14, x56_15, x56_19, x56_18, gk_some, pk_some, qk_some, bnd_v, bnd_n, kl_int, kl_ref, kl_null, kl_un, Nat.reduceAdd, if_true, if_false, gl0, gl1, gl2, gl3, gl4, gl5, gl6, gl7, gl8, gl9, gl10, gl11, gl12]
  by_cases e : v < 0
  · simp only [e, fit1, fit0, fitb, b2i_t, b2i_f, reduceIte, decide_true, decide_false, not_true_eq_false, false_and, Bool.false_eq_true]
  · by_cases e2 : v < f 0 - 1
    · simp only [e, e2, fit1, fit0, fitb, b2i_t, b2i_f, reduceIte, decide_true, decide_false, not_false_eq_true, and_self]
    · simp only [e, e2, fit1, fit0, fitb, b2i_t, b2i_f, reduceIte, decide_true, decide_false, and_false, Bool.false_eq_true]
theorem m57 (v : Int32) (H : HS) : rcal 57 [.int v] H = some (.inl (some (.int (b2i (decide (¬ v < 1 ∧ ¬ 4 < v))))), H) := by
  simp only [c57, x57_0, x57_1, x57_2, x57_5, x57_6, x57_7, x57_10, x57_11, x57_15, x57_14, gk_some, pk_some, qk_some, bnd_v, bnd_n, kl_int, kl_ref, kl_null, kl_un, Nat.reduceAdd, if_true, if_false]
  by_cases e : v < 1
  · simp only [e, fit1, fit0, fitb, b2i_t, b2i_f, reduceIte, decide_true, decide_false, not_true_eq_false, false_and, Bool.false_eq_true]
  · by_cases e2 : 4 < v
    · simp only [e, e2, fit1, fit0, fitb, b2i_t, b2i_f, reduceIte, decide_true, decide_false, not_true_eq_false, and_false, Bool.false_eq_true]
    · simp only [e, e2, fit1, fit0, fitb, b2i_t, b2i_f, reduceIte, decide_true, decide_false, not_false_eq_true, and_self]
theorem m63 (hj : has S j) (hq : 1 ≤ (tr S j).1 ∧ (tr S j).1 ≤ 4) : rcal 63 [.ref p, .ref (p + 5 + j)] (put h p f tk rt ps S, r) = some (.inl (some (.int (b2i (decide ((tr S j).1 = 2 ∧ f 7 < (tr S j).2 4))))), (put h p f tk rt ps S, r)) := by
  simp only [c63, x63_0, x63_1, x63_4, x63_7, x63_10, x63_11, x63_14, x63_15, x63_18, x63_21, x63_22, x63_26, x63_25, gk_some, pk_some, qk_some, bnd_v, bnd_n, kl_int, kl_ref, kl_null, kl_un, Nat.reduceAdd, if_true, if_false, gl0, gl1, gl2, gl3, gl4, gl5, gl6, gl7, gl8, gl9, gl10, gl11, gl12, gt0, gt1, gt2, gt3, gt4, gt5, gt6, gt7, gt8, gt9, gt10, gt11, hj, req_pl hq (by decide : 1 ≤ 2 ∧ 2 ≤ 4)]
  by_cases e : (tr S j).1 = 2
  · by_cases e2 : f 7 < (tr S j).2 4
    · simp only [e, e2, fit1, fit0, fitb, b2i_t, b2i_f, reduceIte, decide_true, decide_false, and_self]
    · simp only [e, e2, fit1, fit0, fitb, b2i_t, b2i_f, reduceIte, decide_true, decide_false, and_false, Bool.false_eq_true]
  · simp only [e, fit1, fit0, fitb, b2i_t, b2i_f, reduceIte, decide_true, decide_false, false_and, Bool.false_eq_true]
/-- occupied or reserved by a train -/
def occP (v : Int32) (s : SL) : Bool := decide (s.2.2 6 = v) && (decide (s.2.1 = 3) || (decide (s.2.1 = 4) && decide (s.2.2 3 ≠ v)))
theorem l60 (w : WS S) (v : Int32) : ∀ (R D : List SL) (i n : Int32) (z1 z2 z3 : Value), S = D ++ R → i = I D.length → rn 60 33 [.ref p, .int v, .int n, .ref (p + 4), .int (I 6), .int i, z1, z2, z3] [] (put h p f tk rt ps S, r) = some (.inl (some (.int (R.foldl (fun n s => if occP v s = true then n + (-1) else n) n))), (put h p f tk rt ps S, r)) := by
  intro R
  induction R with
  | nil =>
    intro D i n z1 z2 z3 hS hi
    have hl := end_ w hS
    rw [x60_33]
    simp only [x60_0, x60_1, x60_4, x60_5, x60_6, x60_9, x60_12, x60_13, x60_14, x60_15, x60_18, x60_19, x60_20, x60_21, x60_22, x60_25, x60_26, x60_27, x60_28, x60_30, x60_31, x60_35, x60_37, x60_40, x60_41, x60_43, x60_44, x60_46, x60_48, x60_51, x60_54, x60_57, x60_58, x60_62, x60_64, x60_66, x60_69, x60_72, x60_75, x60_77, x60_80, x60_81, x60_84, x60_85, x60_89, x60_91, x60_93, x60_96, x60_97, x60_100, x60_102, x60_105, x60_107, x60_110, x60_113, x60_116, x60_88, x60_61, x60_119, x60_120, gk_some, pk_some, qk_some, bnd_v, bnd_n, kl_int, kl_ref, kl_null, kl_un, Nat.reduceAdd, if_true, if_false, hi, hl, nlt6, List.foldl_nil]
  | cons s R ih =>
    intro D i n z1 z2 z3 hS hi
    obtain ⟨h1, h2, h3, h4, h5⟩ := mid_ w hS
    have ha := at_mid h f tk rt ps S r (p := p) hS (by rw [w.1]; decide)
    have ih' := fun n z1 z2 z3 => ih (D ++ [s]) (I D.length + 1) n z1 z2 z3 (sub_ hS) (len_ D s)
    rw [x60_33]
    simp only [x60_0, x60_1, x60_4, x60_5, x60_6, x60_9, x60_12, x60_13, x60_14, x60_15, x60_18, x60_19, x60_20, x60_21, x60_22, x60_25, x60_26, x60_27, x60_28, x60_30, x60_31, x60_35, x60_37, x60_40, x60_41, x60_43, x60_44, x60_46, x60_48, x60_51, x60_54, x60_57, x60_58, x60_62, x60_64, x60_66, x60_69, x60_72, x60_75, x60_77, x60_80, x60_81, x60_84, x60_85, x60_89, x60_91, x60_93, x60_96, x60_97, x60_100, x60_102, x60_105, x60_107, x60_110, x60_113, x60_116, x60_88, x60_61, x60_119, x60_120, gk_some, pk_some, qk_some, bnd_v, bnd_n, kl_int, kl_ref, kl_null, kl_un, Nat.reduceAdd, if_true, if_false, gt0, gt1, gt2, gt3, gt4, gt5, gt6, gt7, gt8, gt9, gt10, gt11, rvL, rvT, alL, ln1, ln2, ln3, h1, hi, h4, ha, h2, req_pl h3 (by decide : 1 ≤ 4 ∧ 4 ≤ 4), req_pl h3 (by decide : 1 ≤ 3 ∧ 3 ≤ 4), ih', List.foldl_cons, fit1, fit0, fitb, b2i_t, b2i_f, reduceIte, decide_true, decide_false, ne10]
    by_cases e : s.2.1 = 3
    · have e4 : ¬ s.2.1 = 4 := by omega
      by_cases e3 : s.2.2 6 = v
      · have e2 : occP v s = true := by simp [occP, e, e3]
        simp only [e, e3, e2, fit1, fit0, fitb, b2i_t, b2i_f, reduceIte, decide_true, decide_false, ne10, show ¬ (3 : Nat) = 4 by decide, Bool.false_eq_true]
      · have e2 : occP v s = false := by simp [occP, e3]
        simp only [e, e3, e2, fit1, fit0, fitb, b2i_t, b2i_f, reduceIte, decide_true, decide_false, ne10, show ¬ (3 : Nat) = 4 by decide, Bool.false_eq_true]
    · by_cases e4 : s.2.1 = 4
      · by_cases e5 : s.2.2 3 = v
        · have e2 : occP v s = false := by simp [occP, e, e5]
          simp only [e, e4, e5, e2, fit1, fit0, fitb, b2i_t, b2i_f, reduceIte, decide_true, decide_false, ne10, show ¬ (4 : Nat) = 3 by decide, Bool.false_eq_true, ite_self]
        · by_cases e3 : s.2.2 6 = v
          · have e2 : occP v s = true := by simp [occP, e4, e3, e5]
            simp only [e, e4, e5, e3, e2, fit1, fit0, fitb, b2i_t, b2i_f, reduceIte, decide_true, decide_false, ne10, show ¬ (4 : Nat) = 3 by decide, Bool.false_eq_true]
          · have e2 : occP v s = false := by simp [occP, e3]
            simp only [e, e4, e5, e3, e2, fit1, fit0, fitb, b2i_t, b2i_f, reduceIte, decide_true, decide_false, ne10, show ¬ (4 : Nat) = 3 by decide, Bool.false_eq_true]
      · have e2 : occP v s = false := by simp [occP, e, e4]
        simp only [e, e4, e2, fit1, fit0, fitb, b2i_t, b2i_f, reduceIte, decide_true, decide_false, ne10, Bool.false_eq_true, ite_self]
end LEAF
