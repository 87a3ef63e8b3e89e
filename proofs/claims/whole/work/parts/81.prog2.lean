/-! the whole program is looked through; its next command -/
theorem psOk_sgn {T : Nat → Int32} {n : Nat} (h6 : n ≤ 60) {s : PS} (o : psOk s) {v : Int32} (q : sgn T n v s.1 = true) : psOk (s.1 + 1, s.2) := by
  unfold sgn at q; simp only [Bool.and_eq_true, decide_eq_true_eq] at q
  exact ⟨by show s.1 + 1 ≤ 60; omega, o.2⟩
def feE (n : Nat) (k : Nat) (s : PS) (c : Nat) : Int32 × Nat × PS × Nat := (if s.1 < n then I s.1 else -1, k, s, c)
def feL (T : Nat → Int32) (n : Nat) : Nat → Nat → PS → Nat → Int32 × Nat × PS × Nat
  | 0, k, s, c => feE n k s c
  | f + 1, k, s, c =>
    if (rdL T n s.1 forms 0 s.1 s).1.isSome = true then
      (if sgn T n 59 (rdL T n s.1 forms 0 s.1 s).2.1 = true then feL T n f (k + 1) ((rdL T n s.1 forms 0 s.1 s).2.1 + 1, (rdL T n s.1 forms 0 s.1 s).2.2) (cmR c (rdL T n s.1 forms 0 s.1 s).1)
       else feE n (k + 1) (rdL T n s.1 forms 0 s.1 s).2 (cmR c (rdL T n s.1 forms 0 s.1 s).1))
    else (I (rdL T n s.1 forms 0 s.1 s).2.1, k, (rdL T n s.1 forms 0 s.1 s).2, c)
section FIND
variable (h : PH) (T : Nat → Int32) (r : Nat × Nat × Nat)
theorem e73 {n k c : Nat} {s : PS} (u : Value) (h6 : n ≤ 60) (o : psOk s) : rn 73 56 [.ref 167, u] [] (PP h T c n k s, r) = some (.inl (some (.int (feE n k s c).1)), (PP h T c n k s, r)) := by
  have g2 : gfd (PP h T c n k s, r) 4 2 167 = some (.int (I s.1)) := gp2 ..
  have g1 : gfd (PP h T c n k s, r) 4 1 167 = some (.int (I n)) := gp1 ..
  have so := o.1
  by_cases q : s.1 < n
  · have a : I s.1 < I n := (I_lt (by omega) (by omega)).mpr q
    simp only [x73_56, x73_57, x73_60, x73_61, x73_64, x73_67, x73_68, x73_71, x73_75, gk_some, pk_some, qk_some, bnd_v, bnd_n, kl_int, kl_ref, kl_null, kl_un, Nat.reduceAdd, if_true, if_false, g1, g2, a, feE, q]
  · have a : ¬ I s.1 < I n := fun z => q ((I_lt (by omega) (by omega)).mp z)
    simp only [x73_56, x73_57, x73_60, x73_61, x73_64, x73_74, x73_75, gk_some, pk_some, qk_some, bnd_v, bnd_n, kl_int, kl_ref, kl_null, kl_un, Nat.reduceAdd, if_true, if_false, g1, g2, a, feE, q]
theorem l73 {n : Nat} (h6 : n ≤ 60) (ck : CK h) : ∀ (f k c : Nat) (s : PS), k + f = 60 → psOk s → rn 73 11 [.ref 167, .int 1] [] (PP h T c n k s, r) = some (.inl (some (.int (feL T n f k s c).1)), (PP h T (feL T n f k s c).2.2.2 n (feL T n f k s c).2.1 (feL T n f k s c).2.2.1, r)) := by
  intro f
  induction f with
  | zero =>
    intro k c s hk o
    have g3 : gfd (PP h T c n k s, r) 4 3 167 = some (.int (I k)) := gp3 ..
    have a : ¬ I k < 60 := fun z => by have := (I_lt (b := 60) (by omega) (by decide)).mp z; omega
    have o1 : ¬ (1 : Int32) = 0 := by decide
    rw [x73_11, x73_12, if_neg o1, x73_15, x73_16, g3]
    simp only [x73_19, x73_21, gk_some, pk_some, qk_some, bnd_v, bnd_n, kl_int, kl_ref, kl_null, kl_un, Nat.reduceAdd, if_true, if_false, a, e73 h T r _ h6 o, feL]
    rfl
  | succ f ih =>
    intro k c s hk o
    have g3 : gfd (PP h T c n k s, r) 4 3 167 = some (.int (I k)) := gp3 ..
    have a : I k < 60 := (I_lt (b := 60) (by omega) (by decide)).mpr (by omega)
    have o1 : ¬ (1 : Int32) = 0 := by decide
    have rv4 : recv (PP h T c n k s, r) 167 4 = true := rvP ..
    have e75 := q75 h T c r (k := k) h6 ck o
    have ow := rdL_ok (T := T) (n := n) (p0 := s.1) h6 o.1 forms 0 s.1 s o.1 o.2
    rw [x73_11, x73_12, if_neg o1, x73_15, x73_16, g3]
    simp only [x73_19, x73_21, x73_24, x73_25, gk_some, pk_some, qk_some, bnd_v, bnd_n, kl_int, kl_ref, kl_null, kl_un, Nat.reduceAdd, if_true, if_false, a, rv4, e75, feL]
    generalize rdL T n s.1 forms 0 s.1 s = w at ow ⊢
    obtain ⟨w1, w2⟩ := w
    cases w1 with
    | none =>
      have o2 : b2i false = 0 := rfl
      have g2 : gfd (PP h T c n k w2, r) 4 2 167 = some (.int (I w2.1)) := gp2 ..
      simp only [x73_28, x73_31, x73_32, x73_35, gk_some, pk_some, qk_some, bnd_v, bnd_n, kl_int, kl_ref, kl_null, kl_un, Nat.reduceAdd, if_true, if_false, o2, g2, Option.isSome_none, Bool.false_eq_true, cmR]
    | some i =>
      have o2 : ¬ b2i true = 0 := by decide
      have g3' : gfd (PP h T (cmR c (some i)) n k w2, r) 4 3 167 = some (.int (I k)) := gp3 ..
      have w3 := wp3 h T w2.2.1 (gP n w2.1 k w2.2.2) (cmR c (some i)) r (I (k + 1))
      rw [gP_u3] at w3
      have w3' : pfd (PP h T (cmR c (some i)) n k w2, r) true 4 3 167 (.int (I (k + 1))) = some (PP h T (cmR c (some i)) n (k + 1) w2, r) := w3
      have rv4' : recv (PP h T (cmR c (some i)) n (k + 1) w2, r) 167 4 = true := rvP ..
      have e80 := m80 h T w2.2.1 (gP n w2.1 (k + 1) w2.2.2) (cmR c (some i)) r (n := n) (p := w2.1) rfl rfl h6 ow.1 59
      simp only [x73_28, x73_36, x73_37, x73_38, x73_41, x73_42, x73_43, x73_46, x73_47, x73_49, gk_some, pk_some, qk_some, bnd_v, bnd_n, kl_int, kl_ref, kl_null, kl_un, Nat.reduceAdd, if_true, if_false, o2, g3', I_1, w3', rv4', Option.isSome_some]
      cases q : sgn T n 59 w2.1 with
      | true =>
        have e80' : rcal 80 [.ref 167, .int 59] (PP h T (cmR c (some i)) n (k + 1) w2, r) = some (.inl (some (.int (b2i true))), (PP h T (cmR c (some i)) n (k + 1) (w2.1 + 1, w2.2), r)) := by
          rw [q, if_pos rfl, gP_u2] at e80; exact e80
        have ox : psOk (w2.1 + 1, w2.2) := psOk_sgn (T := T) h6 ow q
        have i2 := ih (k + 1) (cmR c (some i)) (w2.1 + 1, w2.2) (by omega) ox
        simp only [x73_52, x73_53, gk_some, pk_some, qk_some, bnd_v, bnd_n, kl_int, kl_ref, kl_null, kl_un, Nat.reduceAdd, if_true, if_false, e80', b2i_t, i2]
      | false =>
        have e80' : rcal 80 [.ref 167, .int 59] (PP h T (cmR c (some i)) n (k + 1) w2, r) = some (.inl (some (.int (b2i false))), (PP h T (cmR c (some i)) n (k + 1) w2, r)) := by
          rw [q, if_neg Bool.false_ne_true] at e80; exact e80
        simp only [x73_52, x73_53, x73_11, x73_12, gk_some, pk_some, qk_some, bnd_v, bnd_n, kl_int, kl_ref, kl_null, kl_un, Nat.reduceAdd, if_true, if_false, e80', b2i_f, e73 h T r _ h6 ow, Bool.false_eq_true]
        rfl
theorem q73 {n k c : Nat} {s : PS} (h6 : n ≤ 60) (ck : CK h) (o : psOk s) : rcal 73 [.ref 167] (PP h T c n k s, r) = some (.inl (some (.int (feL T n 60 0 (0, s.2) c).1)), (PP h T (feL T n 60 0 (0, s.2) c).2.2.2 n (feL T n 60 0 (0, s.2) c).2.1 (feL T n 60 0 (0, s.2) c).2.2.1, r)) := by
  have rv4 : recv (PP h T c n k s, r) 167 4 = true := rvP ..
  have e72 := m72 h T s.2.1 (gP n s.1 k s.2.2) c r
  rw [gP_u20] at e72
  have e72' : rcal 72 [.ref 167] (PP h T c n k s, r) = some (.inl none, (PP h T c n k (0, s.2), r)) := e72
  have w3 := wp3 h T s.2.1 (gP n 0 k s.2.2) c r 0
  rw [gP_u30] at w3
  have w3' : pfd (PP h T c n k (0, s.2), r) true 4 3 167 (.int 0) = some (PP h T c n 0 (0, s.2), r) := w3
  have l := l73 h T r h6 ck 60 0 c (0, s.2) rfl ⟨Nat.zero_le _, o.2⟩
  simp only [c73, x73_0, x73_1, x73_4, x73_5, x73_6, x73_9, x73_10, gk_some, pk_some, qk_some, bnd_v, bnd_n, kl_int, kl_ref, kl_null, kl_un, Nat.reduceAdd, if_true, if_false, rv4, e72', w3', l]
/-- the next command: a semicolon before it is taken -/
def nxt (T : Nat → Int32) (n : Nat) (s : PS) : PS := (if sgn T n 59 s.1 = true then s.1 + 1 else s.1, s.2)
theorem nxt_ok {T : Nat → Int32} {n : Nat} (h6 : n ≤ 60) {s : PS} (o : psOk s) : psOk (nxt T n s) := by
  unfold nxt
  split
  · next q => exact psOk_sgn (T := T) h6 o q
  · exact o
theorem q74 {n k c : Nat} {s : PS} (h6 : n ≤ 60) (ck : CK h) (o : psOk s) : rcal 74 [.ref 167] (PP h T c n k s, r) = some (.inl none, (PP h T (cmR c (rdL T n (nxt T n s).1 forms 0 (nxt T n s).1 (nxt T n s)).1) n k (rdL T n (nxt T n s).1 forms 0 (nxt T n s).1 (nxt T n s)).2, r)) := by
  have rv4 : recv (PP h T c n k s, r) 167 4 = true := rvP ..
  have rv4' : recv (PP h T c n k (nxt T n s), r) 167 4 = true := rvP ..
  have e80 := m80 h T s.2.1 (gP n s.1 k s.2.2) c r (n := n) (p := s.1) rfl rfl h6 o.1 59
  have e80' : rcal 80 [.ref 167, .int 59] (PP h T c n k s, r) = some (.inl (some (.int (b2i (sgn T n 59 s.1)))), (PP h T c n k (nxt T n s), r)) := by
    rw [show pput h T s.2.1 (gP n s.1 k s.2.2) c = PP h T c n k s from rfl] at e80
    rw [e80, gP_u2]
    unfold nxt
    cases sgn T n 59 s.1 <;> rfl
  have e75 := q75 h T c r (k := k) h6 ck (nxt_ok (T := T) h6 o)
  simp only [c74, x74_0, x74_1, x74_3, x74_6, x74_7, x74_8, x74_11, x74_12, gk_some, pk_some, qk_some, bnd_v, bnd_n, kl_int, kl_ref, kl_null, kl_un, Nat.reduceAdd, if_true, if_false, rv4, rv4', e80', e75]
end FIND
