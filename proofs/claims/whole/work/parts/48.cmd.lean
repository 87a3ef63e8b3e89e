/-! the commands of a line -/
abbrev LN : Type := (Nat → Int32) × (Nat → Int32) × (Nat → Int32) × (Nat → Int32) × List SL
def putL (h : PH) (p : Nat) (L : LN) : PH := put h p L.1 L.2.1 L.2.2.1 L.2.2.2.1 L.2.2.2.2
/-- the constants stand -/
def CK (h : PH) : Prop := ∀ b, 1 ≤ b → b < 32 → h b = cOs[b - 1]?
def dSt (t u : Int32) (L : LN) : Int32 × LN :=
  if t < 1 ∨ 4 < t ∨ u < 1 ∨ 30 < u then (-2, L) else if ¬ L.1 0 < 7 then (-3, L)
  else (L.1 0, (up L.1 0 (L.1 0 + 1), up L.2.1 (L.1 0).toNatClampNeg t, (if 0 < L.1 0 then up L.2.2.1 (L.1 0 - 1).toNatClampNeg u else L.2.2.1), (if 0 < L.1 0 then up L.2.2.2.1 (L.1 0).toNatClampNeg (L.2.2.2.1 (L.1 0 - 1).toNatClampNeg + u) else L.2.2.2.1), L.2.2.2.2))
def dTr (v t : Int32) (L : LN) : Int32 × LN :=
  if v < 0 ∨ ¬ v < L.1 0 then (-1, L) else if t < 1 ∨ 4 < t then (-2, L)
  else if t < L.2.1 v.toNatClampNeg - freN L.2.1 L.2.2.2.2 v then (-3, L) else (L.2.1 v.toNatClampNeg, (L.1, up L.2.1 v.toNatClampNeg t, L.2.2.1, L.2.2.2.1, L.2.2.2.2))
/-- a new train's fields -/
def ntF (f rt : Nat → Int32) (a b m : Int32) : Nat → Int32 := fun k => match k with
  | 1 => f 6 + 1
  | 2 => a
  | 3 => b
  | 4 => f 7 + m
  | 5 => f 7 + m + betw rt a.toNatClampNeg b.toNatClampNeg + iabs (b - a)
  | 6 => -1
  | 7 => -1
  | 11 => -1
  | _ => 0
def homeAt (S : List SL) (k : Nat) : Nat := (S.map Prod.fst).getD k 0
def dTn (a b m : Int32) (L : LN) : Int32 × LN :=
  if (a < 0 ∨ ¬ a < L.1 0) ∨ b < 0 ∨ ¬ b < L.1 0 then (-1, L) else if a = b ∨ m < 1 ∨ 99 < m then (-2, L) else if ¬ L.1 5 < 6 then (-3, L)
  else (L.1 6 + 1, (up (up L.1 6 (L.1 6 + 1)) 5 (L.1 5 + 1), L.2.1, L.2.2.1, L.2.2.2.1, upS L.2.2.2.2 (homeAt L.2.2.2.2 (L.1 5).toNatClampNeg) (2, ntF L.1 L.2.2.1 a b m)))
def hldP (s : SL) : Bool := decide (s.2.1 ≠ 1) && decide (¬ s.2.2 9 = 0)
def hldN (S : List SL) : Int32 := S.foldl (fun n s => if hldP s = true then n + 1 else n) 0
def dHo (w v : Int32) (L : LN) : Int32 × LN := match L.2.2.2.2.find? (fndP v) with
  | none => (-4, L)
  | some s => if s.2.2 9 = w then (-3, L) else (hldN (upS L.2.2.2.2 s.1 (s.2.1, up s.2.2 9 w)), (L.1, L.2.1, L.2.2.1, L.2.2.2.1, upS L.2.2.2.2 s.1 (s.2.1, up s.2.2 9 w)))
def dCa (v : Int32) (L : LN) : Int32 × LN := match L.2.2.2.2.find? (fndP v) with
  | none => (-4, L)
  | some s => if s.2.1 = 4 then (-3, L) else (L.1 5 - 1, (up L.1 5 (L.1 5 - 1), L.2.1, L.2.2.1, L.2.2.2.1, remS L.2.2.2.2 s.1))
def dWt (v : Int32) (L : LN) : Int32 × LN :=
  if v < 1 ∨ 60 < v then (-2, L) else ((minN L.2.1 L.2.2.1 v.toNatClampNeg (L.1, L.2.2.2.2)).1 8 - L.1 8, ((minN L.2.1 L.2.2.1 v.toNatClampNeg (L.1, L.2.2.2.2)).1, L.2.1, L.2.2.1, L.2.2.2.1, (minN L.2.1 L.2.2.1 v.toNatClampNeg (L.1, L.2.2.2.2)).2))
/-- the command c -/
def doC (c : Nat) (x y z : Int32) (L : LN) : Int32 × LN := match c with
  | 0 => dSt x y L
  | 1 => dTr x y L
  | 2 => dTn x y z L
  | 3 => dHo 1 x L
  | 4 => dHo 0 x L
  | 5 => dCa x L
  | _ => dWt x L
section CMD
variable (h : PH) {p : Nat} (f tk rt ps : Nat → Int32) (S : List SL) (r : Nat × Nat × Nat) {j i : Nat}
theorem pt9z (hp : 32 ≤ p) (hj : has S j) : pfd (put h p f tk rt ps S, r) true 2 9 (p + 5 + j) (.int 0) = some (put h p f tk rt ps (upS S j ((tr S j).1, up (tr S j).2 9 0)), r) := pt9 h f tk rt ps S r hp hj 0 rfl
theorem m37 (hp : 32 ≤ p) {n : Nat} (hn : f 0 = I n) (h7 : n ≤ 7) (t u : Int32) : rcal 37 [.ref p, .int t, .int u] (put h p f tk rt ps S, r) = some (.inl (some (.int (dSt t u (f, tk, rt, ps, S)).1)), (putL h p (dSt t u (f, tk, rt, ps, S)).2, r)) := by
  have h57 := m57 t (put h p f tk rt ps S, r)
  simp only [c37, x37_0, x37_1, x37_4, x37_7, x37_8, x37_9, x37_12, x37_13, x37_15, x37_18, x37_20, x37_21, x37_22, x37_25, x37_26, x37_27, x37_29, x37_32, x37_34, x37_35, x37_36, x37_39, x37_40, x37_41, x37_42, x37_43, x37_46, x37_47, x37_50, x37_51, x37_52, x37_53, x37_54, x37_55, x37_56, x37_59, x37_60, x37_61, x37_64, x37_65, x37_66, x37_67, x37_68, x37_69, x37_70, x37_71, x37_72, x37_73, x37_76, x37_77, x37_78, x37_81, x37_82, gk_some, pk_some, qk_some, bnd_v, bnd_n, kl_int, kl_ref, kl_null, kl_un, Nat.reduceAdd, if_true, if_false, h57, gl0, gl1, gl2, gl3, gl4, gl5, gl6, gl7, gl8, gl9, gl10, gl11, gl12]
  by_cases c1 : t < 1
  · simp only [c1, fit1, fit0, fitb, b2i_t, b2i_f, reduceIte, decide_true, decide_false, not_true_eq_false, false_and, Bool.false_eq_true, dSt, true_or, putL]
  · by_cases c2 : 4 < t
    · simp only [c1, c2, fit1, fit0, fitb, b2i_t, b2i_f, reduceIte, decide_true, decide_false, not_true_eq_false, and_false, Bool.false_eq_true, dSt, true_or, or_true, putL]
    · by_cases c3 : u < 1
      · simp only [c1, c2, c3, fit1, fit0, fitb, b2i_t, b2i_f, reduceIte, decide_true, decide_false, not_false_eq_true, and_self, ne10, dSt, true_or, or_true, putL]
      · by_cases c4 : 30 < u
        · simp only [c1, c2, c3, c4, fit1, fit0, fitb, b2i_t, b2i_f, reduceIte, decide_true, decide_false, not_false_eq_true, and_self, ne10, dSt, true_or, or_true, putL]
        · by_cases c5 : n < 7
          · have c5' : I n < 7 := (I_lt (by omega) (by decide)).mpr c5
            have n0 : ¬ I n < 0 := I_nn (by omega)
            have w1 := fun g => wa1 h f g rt ps S r hp n0 (by rw [I_nat7 h7]; exact c5) t
            by_cases c6 : 0 < n
            · have c6' : 0 < I n := by rw [show (0 : Int32) = I 0 from rfl]; exact (I_lt (by decide) (by omega)).mpr c6
              have m0 : ¬ I (n - 1) < 0 := I_nn (by omega)
              have w2 := fun tk g => wa2 h f tk g ps S r hp m0 (by rw [I_nat (by omega)]; omega) u
              have r3 := fun tk rt => ra3 h f tk rt ps S r (p := p) m0 (by rw [I_nat (by omega)]; omega)
              have w3 := fun tk rt g v => wa3 h f tk rt g S r hp n0 (by rw [I_nat7 h7]; exact c5) v
              simp only [c1, c2, c3, c4, c5', c6', hn, fit1, fit0, fitb, b2i_t, b2i_f, reduceIte, decide_true, decide_false, not_false_eq_true, not_true_eq_false, and_self, ne10, dSt, or_self, putL, w1, w2, w3, r3, I_sub1 c6, gl0, gl1, gl2, gl3, gl4, gl5, gl6, gl7, gl8, gl9, gl10, gl11, gl12, pl0, pl5, pl6, pl7, pl8, pl9, pl10, pl11, pl12, hp, x37_0, x37_1, x37_4, x37_7, x37_8, x37_9, x37_12, x37_13, x37_15, x37_18, x37_20, x37_21, x37_22, x37_25, x37_26, x37_27, x37_29, x37_32, x37_34, x37_35, x37_36, x37_39, x37_40, x37_41, x37_42, x37_43, x37_46, x37_47, x37_50, x37_51, x37_52, x37_53, x37_54, x37_55, x37_56, x37_59, x37_60, x37_61, x37_64, x37_65, x37_66, x37_67, x37_68, x37_69, x37_70, x37_71, x37_72, x37_73, x37_76, x37_77, x37_78, x37_81, x37_82, gk_some, pk_some, qk_some, bnd_v, bnd_n, kl_int, kl_ref, kl_null, kl_un, Nat.reduceAdd, if_true, if_false]
            · have c6' : ¬ 0 < I n := by rw [show (0 : Int32) = I 0 from rfl, I_lt (by decide) (by omega)]; exact c6
              simp only [c1, c2, c3, c4, c5', c6', hn, fit1, fit0, fitb, b2i_t, b2i_f, reduceIte, decide_true, decide_false, not_false_eq_true, not_true_eq_false, and_self, ne10, dSt, or_self, putL, w1, gl0, gl1, gl2, gl3, gl4, gl5, gl6, gl7, gl8, gl9, gl10, gl11, gl12, pl0, pl5, pl6, pl7, pl8, pl9, pl10, pl11, pl12, hp, x37_0, x37_1, x37_4, x37_7, x37_8, x37_9, x37_12, x37_13, x37_15, x37_18, x37_20, x37_21, x37_22, x37_25, x37_26, x37_27, x37_29, x37_32, x37_34, x37_35, x37_36, x37_39, x37_40, x37_41, x37_42, x37_43, x37_46, x37_47, x37_50, x37_51, x37_52, x37_53, x37_54, x37_55, x37_56, x37_59, x37_60, x37_61, x37_64, x37_65, x37_66, x37_67, x37_68, x37_69, x37_70, x37_71, x37_72, x37_73, x37_76, x37_77, x37_78, x37_81, x37_82, gk_some, pk_some, qk_some, bnd_v, bnd_n, kl_int, kl_ref, kl_null, kl_un, Nat.reduceAdd, if_true, if_false]
          · have c5' : ¬ I n < 7 := fun q => c5 ((I_lt (by omega) (by decide)).mp q)
            simp only [c1, c2, c3, c4, c5', hn, fit1, fit0, fitb, b2i_t, b2i_f, reduceIte, decide_true, decide_false, not_false_eq_true, and_self, ne10, dSt, or_self, putL]
theorem m38 (hp : 32 ≤ p) (w : WS S) {n : Nat} (hn : f 0 = I n) (h7 : n ≤ 7) (v t : Int32) : rcal 38 [.ref p, .int v, .int t] (put h p f tk rt ps S, r) = some (.inl (some (.int (dTr v t (f, tk, rt, ps, S)).1)), (putL h p (dTr v t (f, tk, rt, ps, S)).2, r)) := by
  have h57 := m57 t (put h p f tk rt ps S, r)
  have h55 := m55 h f tk rt ps S r (p := p) v
  simp only [c38, x38_0, x38_1, x38_2, x38_5, x38_8, x38_9, x38_10, x38_11, x38_14, x38_17, x38_19, x38_20, x38_21, x38_24, x38_25, x38_26, x38_27, x38_28, x38_29, x38_30, x38_33, x38_34, x38_35, x38_38, x38_40, x38_41, x38_42, x38_45, x38_46, x38_47, x38_48, x38_49, gk_some, pk_some, qk_some, bnd_v, bnd_n, kl_int, kl_ref, kl_null, kl_un, Nat.reduceAdd, if_true, if_false, h55, h57, gl0, gl1, gl2, gl3, gl4, gl5, gl6, gl7, gl8, gl9, gl10, gl11, gl12, rvL, rvT, alL, ln1, ln2, ln3]
  by_cases c1 : v < 0
  · simp only [c1, fit1, fit0, fitb, b2i_t, b2i_f, reduceIte, decide_true, decide_false, not_true_eq_false, false_and, Bool.false_eq_true, dTr, true_or, putL]
  · by_cases c2 : v < f 0
    · by_cases c3 : t < 1
      · simp only [c1, c2, c3, fit1, fit0, fitb, b2i_t, b2i_f, reduceIte, decide_true, decide_false, not_true_eq_false, not_false_eq_true, and_self, false_and, Bool.false_eq_true, ne10, dTr, true_or, or_self, putL]
      · by_cases c4 : 4 < t
        · simp only [c1, c2, c3, c4, fit1, fit0, fitb, b2i_t, b2i_f, reduceIte, decide_true, decide_false, not_true_eq_false, not_false_eq_true, and_self, and_false, Bool.false_eq_true, ne10, dTr, or_true, or_self, putL]
        · have c2' : v < I n := hn ▸ c2
          have hv := nat_lt2 c1 c2' h7
          have h60 := m60 h f tk rt ps S r (p := p) w hn h7 c1 c2'
          have r1 := ra1 h f tk rt ps S r (p := p) c1 (by omega)
          have w1 := wa1 h f tk rt ps S r hp c1 (by omega) t
          by_cases c5 : t < tk v.toNatClampNeg - freN tk S v
          · simp only [c1, c2, c3, c4, c5, fit1, fit0, fitb, b2i_t, b2i_f, reduceIte, decide_true, decide_false, not_true_eq_false, not_false_eq_true, and_self, Bool.false_eq_true, ne10, dTr, or_self, putL, r1, h60, x38_0, x38_1, x38_2, x38_5, x38_8, x38_9, x38_10, x38_11, x38_14, x38_17, x38_19, x38_20, x38_21, x38_24, x38_25, x38_26, x38_27, x38_28, x38_29, x38_30, x38_33, x38_34, x38_35, x38_38, x38_40, x38_41, x38_42, x38_45, x38_46, x38_47, x38_48, x38_49, gk_some, pk_some, qk_some, bnd_v, bnd_n, kl_int, kl_ref, kl_null, kl_un, Nat.reduceAdd, if_true, if_false, gl0, gl1, gl2, gl3, gl4, gl5, gl6, gl7, gl8, gl9, gl10, gl11, gl12, rvL, rvT, alL, ln1, ln2, ln3]
          · simp only [c1, c2, c3, c4, c5, fit1, fit0, fitb, b2i_t, b2i_f, reduceIte, decide_true, decide_false, not_true_eq_false, not_false_eq_true, and_self, Bool.false_eq_true, ne10, dTr, or_self, putL, r1, h60, w1, x38_0, x38_1, x38_2, x38_5, x38_8, x38_9, x38_10, x38_11, x38_14, x38_17, x38_19, x38_20, x38_21, x38_24, x38_25, x38_26, x38_27, x38_28, x38_29, x38_30, x38_33, x38_34, x38_35, x38_38, x38_40, x38_41, x38_42, x38_45, x38_46, x38_47, x38_48, x38_49, gk_some, pk_some, qk_some, bnd_v, bnd_n, kl_int, kl_ref, kl_null, kl_un, Nat.reduceAdd, if_true, if_false, gl0, gl1, gl2, gl3, gl4, gl5, gl6, gl7, gl8, gl9, gl10, gl11, gl12, rvL, rvT, alL, ln1, ln2, ln3]
    · simp only [c1, c2, fit1, fit0, fitb, b2i_t, b2i_f, reduceIte, decide_true, decide_false, not_false_eq_true, and_false, Bool.false_eq_true, dTr, or_true, putL]
theorem find_up {S : List SL} {P : SL → Bool} {s : SL} (w : WS S) (e : S.find? P = some s) : has S s.1 ∧ tr S s.1 = s.2 ∧ s ∈ S := by
  obtain ⟨a, b, c, _⟩ := find_has w.2.1 e
  exact ⟨a, b, c⟩
theorem l40 (w : WS S) : ∀ (R D : List SL) (i n : Int32) (z1 z2 z3 z4 : Value), S = D ++ R → i = I D.length → rn 40 46 [.ref p, z1, z2, z3, .int n, .ref (p + 4), .int (I 6), .int i, z4] [] (put h p f tk rt ps S, r) = some (.inl (some (.int (R.foldl (fun n s => if hldP s = true then n + 1 else n) n))), (put h p f tk rt ps S, r)) := by
  intro R
  induction R with
  | nil =>
    intro D i n z1 z2 z3 z4 hS hi
    have hl := end_ w hS
    rw [x40_46]
    simp only [x40_0, x40_1, x40_2, x40_5, x40_6, x40_6n, x40_7, x40_10, x40_12, x40_7a, x40_13, x40_14, x40_17, x40_18, x40_21, x40_23, x40_24, x40_25, x40_26, x40_29, x40_30, x40_32, x40_33, x40_36, x40_38, x40_40, x40_41, x40_43, x40_44, x40_48, x40_50, x40_53, x40_55, x40_57, x40_58, x40_60, x40_62, x40_65, x40_68, x40_70, x40_73, x40_76, x40_79, x40_82, x40_85, x40_87, x40_5a, gk_some, pk_some, qk_some, bnd_v, bnd_n, kl_int, kl_ref, kl_null, kl_un, Nat.reduceAdd, if_true, if_false, hi, hl, nlt6, List.foldl_nil]
  | cons s R ih =>
    intro D i n z1 z2 z3 z4 hS hi
    obtain ⟨h1, h2, h3, h4, h5⟩ := mid_ w hS
    have ha := at_mid h f tk rt ps S r (p := p) hS (by rw [w.1]; decide)
    have ih' := fun n z1 z2 z3 z4 => ih (D ++ [s]) (I D.length + 1) n z1 z2 z3 z4 (sub_ hS) (len_ D s)
    have hm := m82 h f tk rt ps S r (p := p) h1 (by rw [h2]; exact h3)
    rw [x40_46]
    simp only [x40_0, x40_1, x40_2, x40_5, x40_6, x40_6n, x40_7, x40_10, x40_12, x40_7a, x40_13, x40_14, x40_17, x40_18, x40_21, x40_23, x40_24, x40_25, x40_26, x40_29, x40_30, x40_32, x40_33, x40_36, x40_38, x40_40, x40_41, x40_43, x40_44, x40_48, x40_50, x40_53, x40_55, x40_57, x40_58, x40_60, x40_62, x40_65, x40_68, x40_70, x40_73, x40_76, x40_79, x40_82, x40_85, x40_87, x40_5a, gk_some, pk_some, qk_some, bnd_v, bnd_n, kl_int, kl_ref, kl_null, kl_un, Nat.reduceAdd, if_true, if_false, gt0, gt1, gt2, gt3, gt4, gt5, gt6, gt7, gt8, gt9, gt10, gt11, rvL, rvT, alL, ln1, ln2, ln3, h1, hi, h4, ha, h2, hm, ih', List.foldl_cons]
    by_cases e : s.2.1 = 1
    · have e2 : hldP s = false := by simp [hldP, e]
      simp only [e, fit1, fit0, fitb, b2i_t, b2i_f, reduceIte, decide_true, decide_false, ne_eq, not_true_eq_false, Bool.false_eq_true, e2]
    · by_cases e3 : s.2.2 9 = 0
      · have e2 : hldP s = false := by simp [hldP, e3]
        simp only [e, fit1, fit0, fitb, b2i_t, b2i_f, reduceIte, decide_true, decide_false, ne_eq, not_false_eq_true, ne10, e3, e2, Bool.false_eq_true]
      · have e2 : hldP s = true := by simp [hldP, e, e3]
        simp only [e, fit1, fit0, fitb, b2i_t, b2i_f, reduceIte, decide_true, decide_false, ne_eq, not_false_eq_true, ne10, e3, e2]
theorem m40 (hp : 32 ≤ p) (w : WS S) (v x : Int32) (hx : fitp 1 (.int x) = true) : rcal 40 [.ref p, .int v, .int x] (put h p f tk rt ps S, r) = some (.inl (some (.int (dHo x v (f, tk, rt, ps, S)).1)), (putL h p (dHo x v (f, tk, rt, ps, S)).2, r)) := by
  have h58 := m58 h f tk rt ps S r (p := p) w v
  cases e : S.find? (fndP v) with
  | none =>
    rw [e] at h58
    simp only [c40, x40_0, x40_1, x40_2, x40_5, x40_6, x40_6n, x40_7, x40_10, x40_12, x40_7a, x40_13, x40_14, x40_17, x40_18, x40_21, x40_23, x40_24, x40_25, x40_26, x40_29, x40_30, x40_32, x40_33, x40_36, x40_38, x40_40, x40_41, x40_43, x40_44, x40_48, x40_50, x40_53, x40_55, x40_57, x40_58, x40_60, x40_62, x40_65, x40_68, x40_70, x40_73, x40_76, x40_79, x40_82, x40_85, x40_87, x40_5a, gk_some, pk_some, qk_some, bnd_v, bnd_n, kl_int, kl_ref, kl_null, kl_un, Nat.reduceAdd, if_true, if_false, rvL, rvT, alL, ln1, ln2, ln3, h58, refO, dHo, e, putL]
  | some s =>
    obtain ⟨h1, h2, hm⟩ := find_up w e
    rw [e] at h58
    by_cases e2 : s.2.2 9 = x
    · simp only [c40, x40_0, x40_1, x40_2, x40_5, x40_6, x40_6n, x40_7, x40_10, x40_12, x40_7a, x40_13, x40_14, x40_17, x40_18, x40_21, x40_23, x40_24, x40_25, x40_26, x40_29, x40_30, x40_32, x40_33, x40_36, x40_38, x40_40, x40_41, x40_43, x40_44, x40_48, x40_50, x40_53, x40_55, x40_57, x40_58, x40_60, x40_62, x40_65, x40_68, x40_70, x40_73, x40_76, x40_79, x40_82, x40_85, x40_87, x40_5a, gk_some, pk_some, qk_some, bnd_v, bnd_n, kl_int, kl_ref, kl_null, kl_un, Nat.reduceAdd, if_true, if_false, rvL, rvT, alL, ln1, ln2, ln3, h58, refO, dHo, e, putL, gt0, gt1, gt2, gt3, gt4, gt5, gt6, gt7, gt8, gt9, gt10, gt11, h1, h2, e2]
    · have w2 : WS (upS S s.1 (s.2.1, up s.2.2 9 x)) := WS_up w s.1 (w.2.2.1 s hm) (by simpa [up] using hx)
      have e3 := fun z1 z2 z3 z4 => l40 h f tk rt ps (upS S s.1 (s.2.1, up s.2.2 9 x)) r (p := p) w2 (upS S s.1 (s.2.1, up s.2.2 9 x)) [] 0 0 z1 z2 z3 z4 rfl rfl
      have hpf := pt9 h f tk rt ps S r hp h1 x hx
      rw [h2] at hpf
      simp only [c40, x40_0, x40_1, x40_2, x40_5, x40_6, x40_6n, x40_7, x40_10, x40_12, x40_7a, x40_13, x40_14, x40_17, x40_18, x40_21, x40_23, x40_24, x40_25, x40_26, x40_29, x40_30, x40_32, x40_33, x40_36, x40_38, x40_40, x40_41, x40_43, x40_44, x40_48, x40_50, x40_53, x40_55, x40_57, x40_58, x40_60, x40_62, x40_65, x40_68, x40_70, x40_73, x40_76, x40_79, x40_82, x40_85, x40_87, x40_5a, gk_some, pk_some, qk_some, bnd_v, bnd_n, kl_int, kl_ref, kl_null, kl_un, Nat.reduceAdd, if_true, if_false, rvL, rvT, alL, ln1, ln2, ln3, h58, refO, dHo, e, putL, gt0, gt1, gt2, gt3, gt4, gt5, gt6, gt7, gt8, gt9, gt10, gt11, gl0, gl1, gl2, gl3, gl4, gl5, gl6, gl7, gl8, gl9, gl10, gl11, gl12, h1, h2, e2, hpf, w2.1, e3, hldN]
theorem m41 (hp : 32 ≤ p) (w : WS S) (v : Int32) : rcal 41 [.ref p, .int v] (put h p f tk rt ps S, r) = some (.inl (some (.int (dCa v (f, tk, rt, ps, S)).1)), (putL h p (dCa v (f, tk, rt, ps, S)).2, r)) := by
  have h58 := m58 h f tk rt ps S r (p := p) w v
  cases e : S.find? (fndP v) with
  | none =>
    rw [e] at h58
    simp only [c41, x41_0, x41_1, x41_2, x41_5, x41_6, x41_6n, x41_7, x41_10, x41_12, x41_7a, x41_13, x41_14, x41_17, x41_20, x41_23, x41_25, x41_26, x41_27, x41_28, x41_31, x41_32, x41_35, x41_5a, gk_some, pk_some, qk_some, bnd_v, bnd_n, kl_int, kl_ref, kl_null, kl_un, Nat.reduceAdd, if_true, if_false, rvL, rvT, alL, ln1, ln2, ln3, h58, refO, dCa, e, putL]
  | some s =>
    obtain ⟨h1, h2, hm⟩ := find_up w e
    rw [e] at h58
    have h3 := w.2.2.1 s hm
    simp only [c41, x41_0, x41_1, x41_2, x41_5, x41_6, x41_6n, x41_7, x41_10, x41_12, x41_7a, x41_13, x41_14, x41_17, x41_20, x41_23, x41_25, x41_26, x41_27, x41_28, x41_31, x41_32, x41_35, x41_5a, gk_some, pk_some, qk_some, bnd_v, bnd_n, kl_int, kl_ref, kl_null, kl_un, Nat.reduceAdd, if_true, if_false, rvL, rvT, alL, ln1, ln2, ln3, h58, refO, dCa, e, putL, gt0, gt1, gt2, gt3, gt4, gt5, gt6, gt7, gt8, gt9, gt10, gt11, h1, h2, req_pl h3 (by decide : 1 ≤ 4 ∧ 4 ≤ 4)]
    by_cases e2 : s.2.1 = 4
    · simp only [e2, fit1, fit0, fitb, b2i_t, b2i_f, reduceIte, decide_true, decide_false]
    · simp only [e2, fit1, fit0, fitb, b2i_t, b2i_f, reduceIte, decide_true, decide_false, Bool.false_eq_true, m43 h f tk rt ps S r hp w h1, gk_some, pk_some, qk_some, bnd_v, bnd_n, kl_int, kl_ref, kl_null, kl_un, Nat.reduceAdd, if_true, if_false, x41_0, x41_1, x41_2, x41_5, x41_6, x41_6n, x41_7, x41_10, x41_12, x41_7a, x41_13, x41_14, x41_17, x41_20, x41_23, x41_25, x41_26, x41_27, x41_28, x41_31, x41_32, x41_35, x41_5a, gl0, gl1, gl2, gl3, gl4, gl5, gl6, gl7, gl8, gl9, gl10, gl11, gl12, up_eq, up_ne, ne_eq, not_false_eq_true, Nat.reduceEqDiff]
theorem m39 (hp : 32 ≤ p) (w : WS S) {n m : Nat} (hn : f 0 = I n) (h7 : n ≤ 7) (hm : f 5 = I m) (h6 : m ≤ 6) (a b c : Int32) : rcal 39 [.ref p, .int a, .int b, .int c] (put h p f tk rt ps S, r) = some (.inl (some (.int (dTn a b c (f, tk, rt, ps, S)).1)), (putL h p (dTn a b c (f, tk, rt, ps, S)).2, r)) := by
  have h1 := m55 h f tk rt ps S r (p := p) a
  have h2 := m55 h f tk rt ps S r (p := p) b
  simp only [c39, x39_0, x39_1, x39_2, x39_5, x39_8, x39_9, x39_10, x39_13, x39_16, x39_17, x39_18, x39_19, x39_20, x39_23, x39_24, x39_25, x39_28, x39_29, x39_31, x39_34, x39_36, x39_37, x39_38, x39_41, x39_43, x39_46, x39_48, x39_49, x39_50, x39_51, x39_54, x39_55, x39_56, x39_59, x39_60, x39_63, x39_64, x39_67, x39_68, x39_70, x39_71, x39_72, x39_75, x39_76, x39_77, x39_80, x39_82, x39_85, x39_88, x39_90, x39_91, x39_94, x39_97, x39_99, x39_100, x39_103, x39_105, x39_106, x39_109, x39_111, x39_112, x39_115, x39_116, x39_117, x39_120, x39_122, x39_124, x39_127, x39_128, x39_129, x39_130, x39_133, x39_134, x39_135, x39_136, x39_137, x39_140, x39_141, x39_144, x39_146, x39_147, x39_150, x39_152, x39_153, x39_156, x39_158, x39_159, x39_162, x39_164, x39_165, x39_168, x39_170, x39_171, x39_174, x39_176, x39_177, x39_180, x39_182, x39_185, gk_some, pk_some, qk_some, bnd_v, bnd_n, kl_int, kl_ref, kl_null, kl_un, Nat.reduceAdd, if_true, if_false, h1, h2, gl0, gl1, gl2, gl3, gl4, gl5, gl6, gl7, gl8, gl9, gl10, gl11, gl12, rvL, rvT, alL, ln1, ln2, ln3]
  by_cases a1 : a < 0
  · simp only [a1, fit1, fit0, fitb, b2i_t, b2i_f, reduceIte, decide_true, decide_false, not_true_eq_false, false_and, Bool.false_eq_true, dTn, true_or, putL]
  · by_cases a2 : a < f 0
    · by_cases b1 : b < 0
      · simp only [a1, a2, b1, fit1, fit0, fitb, b2i_t, b2i_f, reduceIte, decide_true, decide_false, not_true_eq_false, not_false_eq_true, and_self, false_and, Bool.false_eq_true, ne10, dTn, true_or, or_true, putL]
      · by_cases b2 : b < f 0
        · by_cases e : a = b
          · simp only [← e, a1, a2, fit1, fit0, fitb, b2i_t, b2i_f, reduceIte, decide_true, decide_false, not_true_eq_false, not_false_eq_true, and_self, Bool.false_eq_true, ne10, dTn, true_or, or_self, putL]
          · by_cases c1 : c < 1
            · simp only [e, a1, a2, b1, b2, c1, fit1, fit0, fitb, b2i_t, b2i_f, reduceIte, decide_true, decide_false, not_true_eq_false, not_false_eq_true, and_self, Bool.false_eq_true, ne10, dTn, true_or, or_self, or_true, putL]
            · by_cases c2 : 99 < c
              · simp only [e, a1, a2, b1, b2, c1, c2, fit1, fit0, fitb, b2i_t, b2i_f, reduceIte, decide_true, decide_false, not_true_eq_false, not_false_eq_true, and_self, Bool.false_eq_true, ne10, dTn, or_self, or_true, putL]
              · by_cases c3 : m < 6
                · have c3' : I m < 6 := (I_lt (by omega) (by decide)).mpr c3
                  obtain ⟨D, s, R, hS, hD⟩ : ∃ D s R, S = D ++ s :: R ∧ D.length = m := by
                    refine ⟨S.take m, S[m]'(by rw [w.1]; exact c3), S.drop (m + 1), ?_, ?_⟩
                    · rw [← List.drop_eq_getElem_cons, List.take_append_drop]
                    · rw [List.length_take, w.1]; omega
                  obtain ⟨k1, k2, k3, k4, k5⟩ := mid_ w hS
                  have hho : homeAt S (I m).toNatClampNeg = s.1 := by
                    unfold homeAt
                    rw [I_nat (by omega), hS, ← hD]; simp
                  have hat := fun f tk rt ps => at_mid h f tk rt ps S r (p := p) hS (by rw [w.1]; decide)
                  rw [hD] at hat
                  have a2' : a < I n := hn ▸ a2
                  have b2' : b < I n := hn ▸ b2
                  have an := nat_lt2 a1 (hn ▸ a2) h7
                  have bn := nat_lt2 b1 (hn ▸ b2) h7
                  have h61 : ∀ f' S', f' 0 = I n → rcal 61 [.ref p, .int a, .int b] (put h p f' tk rt ps S', r) = some (.inl (some (.int (betw rt a.toNatClampNeg b.toNatClampNeg))), (put h p f' tk rt ps S', r)) := by
                    intro f' S' hf'
                    have e := m61 h f' tk rt ps S' r (p := p) hf' h7 an bn
                    rwa [← I_of a1, ← I_of b1] at e
                  have hab : ∀ x : Int32, (if 0 ≤ x then x else 0 - x) = iabs x := fun _ => rfl
                  have et := put_tc h (up (up f 6 (f 6 + 1)) 5 (I m + 1)) tk rt ps (p := p) k1 (t := (2, up (up (up (up (up (up (up (up (up (up (up (tr S s.1).2 1 (f 6 + 1)) 2 a) 3 b) 4 (f 7 + c)) 5 (f 7 + c + betw rt a.toNatClampNeg b.toNatClampNeg + iabs (b - a))) 6 (-1)) 7 (-1)) 8 0) 9 0) 10 0) 11 (-1))) (u := (2, ntF f rt a b c)) (by simp [tO, up, ntF])
                  have ed : dTn a b c (f, tk, rt, ps, S) = (f 6 + 1, (up (up f 6 (f 6 + 1)) 5 (I m + 1), tk, rt, ps, upS S s.1 (2, ntF f rt a b c))) := by
                    unfold dTn
                    simp only [e, a1, a2, b1, b2, c1, c2, c3', hm, hho, fit1, fit0, fitb, b2i_t, b2i_f, reduceIte, decide_true, decide_false, not_true_eq_false, not_false_eq_true, or_self, Bool.false_eq_true]
                  rw [ed]
                  simp only [putL]
                  rw [← et]
                  simp only [e, a1, a2', b1, b2', c1, c2, hm, c3', fit1, fit0, fitb, b2i_t, b2i_f, reduceIte, decide_true, decide_false, not_true_eq_false, not_false_eq_true, and_self, ne10, x39_0, x39_1, x39_2, x39_5, x39_8, x39_9, x39_10, x39_13, x39_16, x39_17, x39_18, x39_19, x39_20, x39_23, x39_24, x39_25, x39_28, x39_29, x39_31, x39_34, x39_36, x39_37, x39_38, x39_41, x39_43, x39_46, x39_48, x39_49, x39_50, x39_51, x39_54, x39_55, x39_56, x39_59, x39_60, x39_63, x39_64, x39_67, x39_68, x39_70, x39_71, x39_72, x39_75, x39_76, x39_77, x39_80, x39_82, x39_85, x39_88, x39_90, x39_91, x39_94, x39_97, x39_99, x39_100, x39_103, x39_105, x39_106, x39_109, x39_111, x39_112, x39_115, x39_116, x39_117, x39_120, x39_122, x39_124, x39_127, x39_128, x39_129, x39_130, x39_133, x39_134, x39_135, x39_136, x39_137, x39_140, x39_141, x39_144, x39_146, x39_147, x39_150, x39_152, x39_153, x39_156, x39_158, x39_159, x39_162, x39_164, x39_165, x39_168, x39_170, x39_171, x39_174, x39_176, x39_177, x39_180, x39_182, x39_185, gk_some, pk_some, qk_some, bnd_v, bnd_n, kl_int, kl_ref, kl_null, kl_un, Nat.reduceAdd, if_true, if_false, gl0, gl1, gl2, gl3, gl4, gl5, gl6, gl7, gl8, gl9, gl10, gl11, gl12, gt0, gt1, gt2, gt3, gt4, gt5, gt6, gt7, gt8, gt9, gt10, gt11, pl0, pl5, pl6, pl7, pl8, pl9, pl10, pl11, pl12, hp, rvL, rvT, alL, ln1, ln2, ln3, up_eq, up_ne, ne_eq, not_false_eq_true, Nat.reduceEqDiff, hat, k1, k2, pt0 h _ _ _ _ _ _ hp, pt1 h _ _ _ _ _ _ hp, pt2 h _ _ _ _ _ _ hp, pt3 h _ _ _ _ _ _ hp, pt4 h _ _ _ _ _ _ hp, pt5 h _ _ _ _ _ _ hp, pt6 h _ _ _ _ _ _ hp, pt7 h _ _ _ _ _ _ hp, pt8 h _ _ _ _ _ _ hp, pt10 h _ _ _ _ _ _ hp, pt11 h _ _ _ _ _ _ hp, pt9z h _ _ _ _ _ _ hp, has_up, tr_up, upS_upS, h61, hn, hab]
                · have c3' : ¬ I m < 6 := fun q => c3 ((I_lt (by omega) (by decide)).mp q)
                  simp only [e, a1, a2, b1, b2, c1, c2, hm, c3', fit1, fit0, fitb, b2i_t, b2i_f, reduceIte, decide_true, decide_false, not_true_eq_false, not_false_eq_true, and_self, Bool.false_eq_true, ne10, dTn, or_self, putL]
        · simp only [a1, a2, b1, b2, fit1, fit0, fitb, b2i_t, b2i_f, reduceIte, decide_true, decide_false, not_true_eq_false, not_false_eq_true, and_self, and_false, Bool.false_eq_true, ne10, dTn, or_true, putL]
    · simp only [a1, a2, fit1, fit0, fitb, b2i_t, b2i_f, reduceIte, decide_true, decide_false, not_false_eq_true, and_false, Bool.false_eq_true, dTn, or_true, true_or, putL]
/-- what a command wants of the line -/
def cmK (c : Nat) (x : Int32) (L : LN) : Prop := WS L.2.2.2.2 ∧ (∃ n, L.1 0 = I n ∧ n ≤ 7) ∧ (∃ m, L.1 5 = I m ∧ m ≤ 6) ∧ (6 ≤ c → ¬ x < 1 → ¬ 60 < x → minKN L.2.1 L.2.2.1 x.toNatClampNeg (L.1, L.2.2.2.2))
theorem m36 (hC : CK h) (hp : 32 ≤ p) (L : LN) (c : Nat) (hc : c < 7) (x y z : Int32) (k : cmK c x L) : rcal 36 [.ref p, .ref (5 + c), .int x, .int y, .int z] (putL h p L, r) = some (.inl (some (.int (doC c x y z L).1)), (putL h p (doC c x y z L).2, r)) := by
  obtain ⟨f, tk, rt, ps, S⟩ := L
  obtain ⟨w, ⟨n, hn, h7⟩, ⟨m, hm, h6⟩, kw⟩ := k
  simp only [] at w hn hm kw
  have ho : ∀ b, 1 ≤ b → b < 32 → put h p f tk rt ps S b = cOs[b - 1]? := fun b b1 b2 => by
    rw [put_out h f tk rt ps w (by unfold out_; omega)]; exact hC b b1 b2
  have h13 : ∀ i : Nat, i < 7 → ald (put h p f tk rt ps S, r) 100 13 (I i) = some (.int (I ((i + 1) % 7))) := by
    intro i hi
    unfold ald
    simp only [ho 13 (by decide) (by decide)]
    have : ∀ i : Nat, i < 7 → (match cOs[12]? with
      | some (c, vs) => if c = 100 ∧ ¬ (I i < 0 ∨ vs.length ≤ (I i).toNatClampNeg) ∧ vs.length < 2147483648 then vs[(I i).toNatClampNeg]? else none
      | none => none) = some (.int (I ((i + 1) % 7))) := by decide
    exact this i hi
  have hr : recv (put h p f tk rt ps S, r) (5 + c) 8 = true := by
    unfold recv
    simp only [ho (5 + c) (by omega) (by omega)]
    have : ∀ c : Nat, c < 7 → (match cOs[5 + c - 1]? with
      | some (d, _) => Nat.beq d 8
      | none => false) = true := by decide
    exact this c hc
  have hg : gfd (put h p f tk rt ps S, r) 8 0 (5 + c) = some (.int (I c)) := by
    unfold gfd
    simp only [ho (5 + c) (by omega) (by omega)]
    have : ∀ c : Nat, c < 7 → (match cOs[5 + c - 1]? with
      | some (d, fs) => if d = 8 then fs[0]? else none
      | none => none) = some (.int (I c)) := by decide
    exact this c hc
  have h13' := h13 c hc
  have pre : rcal 36 [.ref p, .ref (5 + c), .int x, .int y, .int z] (put h p f tk rt ps S, r) = rn 36 8 [.ref p, .ref (5 + c), .int x, .int y, .int z] [.int (I ((c + 1) % 7))] (put h p f tk rt ps S, r) := by
    simp only [c36, x36_0, x36_3, x36_4, x36_7, c9, x9_0, x9_1, x9_4, gk_some, pk_some, qk_some, bnd_v, bnd_n, kl_int, kl_ref, kl_null, kl_un, Nat.reduceAdd, if_true, if_false, hr, hg, h13']
  show rcal 36 [.ref p, .ref (5 + c), .int x, .int y, .int z] (put h p f tk rt ps S, r) = _
  rw [pre]
  rcases (by omega : c = 0 ∨ c = 1 ∨ c = 2 ∨ c = 3 ∨ c = 4 ∨ c = 5 ∨ c = 6) with rfl | rfl | rfl | rfl | rfl | rfl | rfl
  · rw [show I ((0 + 1) % 7) = 1 from rfl]
    simp only [x36_0, x36_3, x36_4, x36_7, x36_8_1, x36_8_2, x36_8_3, x36_8_4, x36_8_5, x36_8_6, x36_8_d, x36_91, x36_92, x36_93, x36_96, x36_85, x36_86, x36_87, x36_90, x36_78, x36_79, x36_80, x36_81, x36_84, x36_71, x36_72, x36_73, x36_74, x36_77, x36_62, x36_63, x36_64, x36_65, x36_67, x36_70, x36_55, x36_56, x36_57, x36_58, x36_61, x36_48, x36_49, x36_50, x36_51, x36_54, gk_some, pk_some, qk_some, bnd_v, bnd_n, kl_int, kl_ref, kl_null, kl_un, Nat.reduceAdd, if_true, if_false, rvL, rvT, alL, ln1, ln2, ln3, m37 h f tk rt ps S r hp hn h7, doC, putL]
  · rw [show I ((1 + 1) % 7) = 2 from rfl]
    simp only [x36_0, x36_3, x36_4, x36_7, x36_8_1, x36_8_2, x36_8_3, x36_8_4, x36_8_5, x36_8_6, x36_8_d, x36_91, x36_92, x36_93, x36_96, x36_85, x36_86, x36_87, x36_90, x36_78, x36_79, x36_80, x36_81, x36_84, x36_71, x36_72, x36_73, x36_74, x36_77, x36_62, x36_63, x36_64, x36_65, x36_67, x36_70, x36_55, x36_56, x36_57, x36_58, x36_61, x36_48, x36_49, x36_50, x36_51, x36_54, gk_some, pk_some, qk_some, bnd_v, bnd_n, kl_int, kl_ref, kl_null, kl_un, Nat.reduceAdd, if_true, if_false, rvL, rvT, alL, ln1, ln2, ln3, m38 h f tk rt ps S r hp w hn h7, doC, putL]
  · rw [show I ((2 + 1) % 7) = 3 from rfl]
    simp only [x36_0, x36_3, x36_4, x36_7, x36_8_1, x36_8_2, x36_8_3, x36_8_4, x36_8_5, x36_8_6, x36_8_d, x36_91, x36_92, x36_93, x36_96, x36_85, x36_86, x36_87, x36_90, x36_78, x36_79, x36_80, x36_81, x36_84, x36_71, x36_72, x36_73, x36_74, x36_77, x36_62, x36_63, x36_64, x36_65, x36_67, x36_70, x36_55, x36_56, x36_57, x36_58, x36_61, x36_48, x36_49, x36_50, x36_51, x36_54, gk_some, pk_some, qk_some, bnd_v, bnd_n, kl_int, kl_ref, kl_null, kl_un, Nat.reduceAdd, if_true, if_false, rvL, rvT, alL, ln1, ln2, ln3, m39 h f tk rt ps S r hp w hn h7 hm h6, doC, putL]
  · rw [show I ((3 + 1) % 7) = 4 from rfl]
    simp only [x36_0, x36_3, x36_4, x36_7, x36_8_1, x36_8_2, x36_8_3, x36_8_4, x36_8_5, x36_8_6, x36_8_d, x36_91, x36_92, x36_93, x36_96, x36_85, x36_86, x36_87, x36_90, x36_78, x36_79, x36_80, x36_81, x36_84, x36_71, x36_72, x36_73, x36_74, x36_77, x36_62, x36_63, x36_64, x36_65, x36_67, x36_70, x36_55, x36_56, x36_57, x36_58, x36_61, x36_48, x36_49, x36_50, x36_51, x36_54, gk_some, pk_some, qk_some, bnd_v, bnd_n, kl_int, kl_ref, kl_null, kl_un, Nat.reduceAdd, if_true, if_false, rvL, rvT, alL, ln1, ln2, ln3, m40 h f tk rt ps S r hp w _ 1 rfl, doC, putL]
  · rw [show I ((4 + 1) % 7) = 5 from rfl]
    simp only [x36_0, x36_3, x36_4, x36_7, x36_8_1, x36_8_2, x36_8_3, x36_8_4, x36_8_5, x36_8_6, x36_8_d, x36_91, x36_92, x36_93, x36_96, x36_85, x36_86, x36_87, x36_90, x36_78, x36_79, x36_80, x36_81, x36_84, x36_71, x36_72, x36_73, x36_74, x36_77, x36_62, x36_63, x36_64, x36_65, x36_67, x36_70, x36_55, x36_56, x36_57, x36_58, x36_61, x36_48, x36_49, x36_50, x36_51, x36_54, gk_some, pk_some, qk_some, bnd_v, bnd_n, kl_int, kl_ref, kl_null, kl_un, Nat.reduceAdd, if_true, if_false, rvL, rvT, alL, ln1, ln2, ln3, m40 h f tk rt ps S r hp w _ 0 rfl, doC, putL]
  · rw [show I ((5 + 1) % 7) = 6 from rfl]
    simp only [x36_0, x36_3, x36_4, x36_7, x36_8_1, x36_8_2, x36_8_3, x36_8_4, x36_8_5, x36_8_6, x36_8_d, x36_91, x36_92, x36_93, x36_96, x36_85, x36_86, x36_87, x36_90, x36_78, x36_79, x36_80, x36_81, x36_84, x36_71, x36_72, x36_73, x36_74, x36_77, x36_62, x36_63, x36_64, x36_65, x36_67, x36_70, x36_55, x36_56, x36_57, x36_58, x36_61, x36_48, x36_49, x36_50, x36_51, x36_54, gk_some, pk_some, qk_some, bnd_v, bnd_n, kl_int, kl_ref, kl_null, kl_un, Nat.reduceAdd, if_true, if_false, rvL, rvT, alL, ln1, ln2, ln3, m41 h f tk rt ps S r hp w, doC, putL]
  · rw [show I ((6 + 1) % 7) = 0 from rfl]
    have ed : rcal 42 [.ref p, .int x] (put h p f tk rt ps S, r) = some (.inl (some (.int (dWt x (f, tk, rt, ps, S)).1)), (putL h p (dWt x (f, tk, rt, ps, S)).2, r)) := by
      by_cases c1 : x < 1
      · rw [m42n h f tk rt ps S r (Or.inl c1)]
        unfold dWt; rw [if_pos (Or.inl c1)]; rfl
      · by_cases c2 : 60 < x
        · rw [m42n h f tk rt ps S r (Or.inr c2)]
          unfold dWt; rw [if_pos (Or.inr c2)]; rfl
        · have x0 : ¬ x < 0 := fun q => c1 (by rw [Int32.lt_iff_toInt_lt] at q ⊢; exact Int.lt_trans q (by decide))
          have hx := I_of x0
          have b1 : ¬ I x.toNatClampNeg < I 1 := by rw [← hx]; exact c1
          have b2 : ¬ I 60 < I x.toNatClampNeg := by rw [← hx]; exact c2
          have hl := Int32.toNatClampNeg_lt x
          rw [I_lt hl (by decide)] at b1
          rw [I_lt (by decide) hl] at b2
          have e := m42 h f tk rt ps S r hp w (m := x.toNatClampNeg) (by omega) (by omega) (kw (by decide) c1 c2)
          rw [← hx] at e
          rw [e]
          unfold dWt; rw [if_neg (fun q => q.elim c1 c2)]; rfl
    simp only [x36_0, x36_3, x36_4, x36_7, x36_8_1, x36_8_2, x36_8_3, x36_8_4, x36_8_5, x36_8_6, x36_8_d, x36_91, x36_92, x36_93, x36_96, x36_85, x36_86, x36_87, x36_90, x36_78, x36_79, x36_80, x36_81, x36_84, x36_71, x36_72, x36_73, x36_74, x36_77, x36_62, x36_63, x36_64, x36_65, x36_67, x36_70, x36_55, x36_56, x36_57, x36_58, x36_61, x36_48, x36_49, x36_50, x36_51, x36_54, x36_8_d _ _ _ _ _ _ 0 (Or.inl (by decide)), gk_some, pk_some, qk_some, bnd_v, bnd_n, kl_int, kl_ref, kl_null, kl_un, Nat.reduceAdd, if_true, if_false, rvL, rvT, alL, ln1, ln2, ln3, ed, doC, putL]
end CMD
