/-! minutes one behind another, and the line's forecasts -/
abbrev LQ : Type := (Nat → Int32) × List SL
def min1 (tk rt : Nat → Int32) (q : LQ) : LQ := mvN 0 ((q.1 0).toNatClampNeg - 1) (up q.1 7 (q.1 7 + 1), q.2)
def min2 (tk rt : Nat → Int32) (q : LQ) : List SL := ((min1 tk rt q).2.map Prod.fst).foldl (br1 (min1 tk rt q).1 tk) (min1 tk rt q).2
/-- one minute -/
def minQ (tk rt : Nat → Int32) (q : LQ) : LQ := ((min1 tk rt q).1, goN (min1 tk rt q).1 tk rt 6 (nxS none (min2 tk rt q)) (min2 tk rt q))
/-- a minute can be walked -/
def minK (tk rt : Nat → Int32) (q : LQ) : Prop := ∃ n, q.1 0 = I n ∧ n ≤ 7 ∧ mvKN 0 (n - 1) (up q.1 7 (q.1 7 + 1), q.2) ∧ brK n (min1 tk rt q).2 ∧ WS (min2 tk rt q) ∧ ((1 ≤ n ∧ goKN (min1 tk rt q).1 tk rt n 6 (nxS none (min2 tk rt q)) (min2 tk rt q)) ∨ nxS none (min2 tk rt q) = none) ∧ WS (minQ tk rt q).2
def minN (tk rt : Nat → Int32) : Nat → LQ → LQ
  | 0, q => q
  | c + 1, q => minN tk rt c (minQ tk rt q)
def minKN (tk rt : Nat → Int32) : Nat → LQ → Prop
  | 0, _ => True
  | c + 1, q => minK tk rt q ∧ minKN tk rt c (minQ tk rt q)
def puA (tk rt : Nat → Int32) (v : Int32) : Nat → LQ → Int32 × LQ
  | 0, q => (-1, q)
  | c + 1, q => if (minQ tk rt q).2.find? (fndP v) = none then ((minQ tk rt q).1 7, minQ tk rt q) else puA tk rt v c (minQ tk rt q)
def puS (tk rt : Nat → Int32) : Nat → LQ → LQ
  | 0, q => q
  | c + 1, q => if 0 < q.1 5 then puS tk rt c (minQ tk rt q) else q
theorem mvN_0 : ∀ (c a : Nat) (q : LQ), (mvN a c q).1 0 = q.1 0
  | 0, _, _ => rfl
  | c + 1, a, q => by rw [mvN, mvN_0 c, mv1_0]
theorem minQ_0 (tk rt : Nat → Int32) (q : LQ) : (minQ tk rt q).1 0 = q.1 0 := by
  unfold minQ min1
  rw [mvN_0]; rfl
theorem I_nat7 {n : Nat} (h7 : n ≤ 7) : (I n).toNatClampNeg = n := I_nat (by omega)
section FORE
variable (h : PH) {p : Nat} (f tk rt ps : Nat → Int32) (S : List SL) (r : Nat × Nat × Nat) {j i : Nat}
theorem m44 (hp : 32 ≤ p) (w : WS S) (k : minK tk rt (f, S)) : rcal 44 [.ref p] (put h p f tk rt ps S, r) = some (.inl none, (put h p (minQ tk rt (f, S)).1 tk rt ps (minQ tk rt (f, S)).2, r)) := by
  obtain ⟨n, hn, h7, k1, k2, k3, k4, k5⟩ := k
  simp only [] at hn k1
  have hq1 : min1 tk rt (f, S) = mvN 0 (n - 1) (up f 7 (f 7 + 1), S) := by
    unfold min1; simp only [hn, I_nat7 h7]
  have h0 : (min1 tk rt (f, S)).1 0 = I n := by rw [hq1, mvN_0]; exact hn
  have h45 := m45 h (up f 7 (f 7 + 1)) tk rt ps S r hp h7 (show up f 7 (f 7 + 1) 0 = I n from hn) k1
  rw [← hq1] at h45
  have h47 := m47 h (min1 tk rt (f, S)).1 tk rt ps (min1 tk rt (f, S)).2 r hp h7 h0 k2
  have h48 : rcal 48 [.ref p] (put h p (min1 tk rt (f, S)).1 tk rt ps (min2 tk rt (f, S)), r) = some (.inl none, (put h p (minQ tk rt (f, S)).1 tk rt ps (minQ tk rt (f, S)).2, r)) := by
    rcases k4 with ⟨h1n, k4⟩ | k4
    · exact m48 h (min1 tk rt (f, S)).1 tk rt ps (min2 tk rt (f, S)) r hp k3 h7 h1n h0 k4
    · have h50 := m50n h (min1 tk rt (f, S)).1 tk rt ps (min2 tk rt (f, S)) r (p := p) k3
      unfold minQ
      rw [k4] at h50 ⊢
      simp only [refO] at h50
      simp only [c48, x48_0, x48_1, x48_2, x48_5, x48_6, x48_7, x48_8, x48_9, x48_11, x48_14, x48_14n, x48_15, x48_63, x48_15a, x48_18, x48_19, x48_22, x48_25, x48_28, x48_29, x48_32, x48_33, x48_36, x48_39, x48_40, x48_43, x48_46, x48_47, x48_48, x48_51, x48_52, x48_53, x48_56, x48_57, x48_60, x48_56a, x48_5a, gk_some, pk_some, qk_some, bnd_v, bnd_n, kl_int, kl_ref, kl_null, kl_un, Nat.reduceAdd, if_true, if_false, rvL, rvT, alL, ln1, ln2, ln3, h50, show (0 : Int32) < 6 by decide, goN]
  unfold min2 at h48
  simp only [c44, x44_0, x44_1, x44_2, x44_5, x44_6, x44_7, x44_10, x44_11, x44_14, x44_15, x44_18, x44_19, x44_22, gk_some, pk_some, qk_some, bnd_v, bnd_n, kl_int, kl_ref, kl_null, kl_un, Nat.reduceAdd, if_true, if_false, gl0, gl1, gl2, gl3, gl4, gl5, gl6, gl7, gl8, gl9, gl10, gl11, gl12, pl0, pl5, pl6, pl7, pl8, pl9, pl10, pl11, pl12, hp, rvL, rvT, alL, ln1, ln2, ln3, h45, h47, h48]
theorem l42 (hp : 32 ≤ p) {m : Nat} (hm : m ≤ 60) (z : Int32) : ∀ (c a : Nat) (q : LQ), a + c = m → WS q.2 → minKN tk rt c q → rn 42 21 [.ref p, .int (I m), .int z, .int (I a)] [] (put h p q.1 tk rt ps q.2, r) = some (.inl (some (.int ((minN tk rt c q).1 8 - z))), (put h p (minN tk rt c q).1 tk rt ps (minN tk rt c q).2, r)) := by
  intro c
  induction c with
  | zero =>
    intro a q ha _ _
    have : a = m := by omega
    subst this
    have hlt : ¬ I a < I a := by rw [I_lt (by omega) (by omega)]; omega
    rw [x42_21]
    simp only [x42_0, x42_1, x42_2, x42_5, x42_6, x42_8, x42_11, x42_13, x42_14, x42_15, x42_18, x42_19, x42_20, x42_22, x42_23, x42_26, x42_27, x42_30, x42_33, x42_36, x42_37, x42_40, x42_41, x42_42, gk_some, pk_some, qk_some, bnd_v, bnd_n, kl_int, kl_ref, kl_null, kl_un, Nat.reduceAdd, if_true, if_false, gl0, gl1, gl2, gl3, gl4, gl5, gl6, gl7, gl8, gl9, gl10, gl11, gl12, hlt, minN]
  | succ c ih =>
    intro a q ha w k
    have hlt : I a < I m := by rw [I_lt (by omega) (by omega)]; omega
    have h44 := m44 h q.1 tk rt ps q.2 r hp w k.1
    obtain ⟨n, _, _, _, _, _, _, w2⟩ := k.1
    have ih' := ih (a + 1) (minQ tk rt q) (by omega) w2 k.2
    rw [x42_21]
    simp only [x42_0, x42_1, x42_2, x42_5, x42_6, x42_8, x42_11, x42_13, x42_14, x42_15, x42_18, x42_19, x42_20, x42_22, x42_23, x42_26, x42_27, x42_30, x42_33, x42_36, x42_37, x42_40, x42_41, x42_42, gk_some, pk_some, qk_some, bnd_v, bnd_n, kl_int, kl_ref, kl_null, kl_un, Nat.reduceAdd, if_true, if_false, gl0, gl1, gl2, gl3, gl4, gl5, gl6, gl7, gl8, gl9, gl10, gl11, gl12, rvL, rvT, alL, ln1, ln2, ln3, hlt, h44, I_1, ih', minN]
theorem m42 (hp : 32 ≤ p) (w : WS S) {m : Nat} (h1 : 1 ≤ m) (h60 : m ≤ 60) (k : minKN tk rt m (f, S)) : rcal 42 [.ref p, .int (I m)] (put h p f tk rt ps S, r) = some (.inl (some (.int ((minN tk rt m (f, S)).1 8 - f 8))), (put h p (minN tk rt m (f, S)).1 tk rt ps (minN tk rt m (f, S)).2, r)) := by
  have e := l42 h tk rt ps r hp h60 (f 8) m 0 (f, S) (by omega) w k
  rw [show I 0 = 0 from rfl] at e
  have c1 : ¬ I m < 1 := by rw [show (1 : Int32) = I 1 from rfl, I_lt (by omega) (by omega)]; omega
  have c2 : ¬ 60 < I m := by rw [show (60 : Int32) = I 60 from rfl, I_lt (by omega) (by omega)]; omega
  simp only [c42, x42_0, x42_1, x42_2, x42_5, x42_6, x42_8, x42_11, x42_13, x42_14, x42_15, x42_18, x42_19, x42_20, x42_22, x42_23, x42_26, x42_27, x42_30, x42_33, x42_36, x42_37, x42_40, x42_41, x42_42, gk_some, pk_some, qk_some, bnd_v, bnd_n, kl_int, kl_ref, kl_null, kl_un, Nat.reduceAdd, if_true, if_false, gl0, gl1, gl2, gl3, gl4, gl5, gl6, gl7, gl8, gl9, gl10, gl11, gl12, c1, c2, e]
theorem m42n {v : Int32} (hv : v < 1 ∨ 60 < v) : rcal 42 [.ref p, .int v] (put h p f tk rt ps S, r) = some (.inl (some (.int (-2))), (put h p f tk rt ps S, r)) := by
  by_cases c1 : v < 1
  · simp only [c42, x42_0, x42_1, x42_2, x42_5, x42_6, x42_8, x42_11, x42_13, x42_14, x42_15, x42_18, x42_19, x42_20, x42_22, x42_23, x42_26, x42_27, x42_30, x42_33, x42_36, x42_37, x42_40, x42_41, x42_42, gk_some, pk_some, qk_some, bnd_v, bnd_n, kl_int, kl_ref, kl_null, kl_un, Nat.reduceAdd, if_true, if_false, gl0, gl1, gl2, gl3, gl4, gl5, gl6, gl7, gl8, gl9, gl10, gl11, gl12, c1]
  · have c2 := hv.resolve_left c1
    simp only [c42, x42_0, x42_1, x42_2, x42_5, x42_6, x42_8, x42_11, x42_13, x42_14, x42_15, x42_18, x42_19, x42_20, x42_22, x42_23, x42_26, x42_27, x42_30, x42_33, x42_36, x42_37, x42_40, x42_41, x42_42, gk_some, pk_some, qk_some, bnd_v, bnd_n, kl_int, kl_ref, kl_null, kl_un, Nat.reduceAdd, if_true, if_false, gl0, gl1, gl2, gl3, gl4, gl5, gl6, gl7, gl8, gl9, gl10, gl11, gl12, c1, c2]
theorem find_ref {S : List SL} {P : SL → Bool} : (S.find? P = none ∧ refO p (S.find? P) = .null) ∨ ∃ s, S.find? P = some s ∧ refO p (S.find? P) = .ref (p + 5 + s.1) := by
  cases e : S.find? P with
  | none => exact Or.inl ⟨rfl, rfl⟩
  | some s => exact Or.inr ⟨s, rfl, rfl⟩
theorem l52 (hp : 32 ≤ p) (v : Int32) : ∀ (c a : Nat) (q : LQ), a + c = 300 → WS q.2 → minKN tk rt c q → rn 52 2 [.ref p, .int v, .int (I a)] [] (put h p q.1 tk rt ps q.2, r) = some (.inl (some (.int (puA tk rt v c q).1)), (put h p (puA tk rt v c q).2.1 tk rt ps (puA tk rt v c q).2.2, r)) := by
  intro c
  induction c with
  | zero =>
    intro a q ha _ _
    have : a = 300 := by omega
    subst this
    rw [x52_2]
    simp only [x52_0, x52_1, x52_3, x52_6, x52_9, x52_10, x52_13, x52_14, x52_15, x52_18, x52_21, x52_22, x52_25, x52_18a, x52_26, x52_29, x52_32, x52_33, gk_some, pk_some, qk_some, bnd_v, bnd_n, kl_int, kl_ref, kl_null, kl_un, Nat.reduceAdd, if_true, if_false, gl0, gl1, gl2, gl3, gl4, gl5, gl6, gl7, gl8, gl9, gl10, gl11, gl12, show ¬ I 300 < 300 by decide, puA]
  | succ c ih =>
    intro a q ha w k
    have hlt : I a < 300 := by rw [show (300 : Int32) = I 300 from rfl, I_lt (by omega) (by omega)]; omega
    have h44 := m44 h q.1 tk rt ps q.2 r hp w k.1
    obtain ⟨n, _, _, _, _, _, _, w2⟩ := k.1
    have ih' := ih (a + 1) (minQ tk rt q) (by omega) w2 k.2
    have h58 := m58 h (minQ tk rt q).1 tk rt ps (minQ tk rt q).2 r (p := p) w2 v
    rw [x52_2]
    rcases find_ref (p := p) (S := (minQ tk rt q).2) (P := fndP v) with ⟨e1, e2⟩ | ⟨s, e1, e2⟩
    · rw [e2] at h58
      simp only [x52_0, x52_1, x52_3, x52_6, x52_9, x52_10, x52_13, x52_14, x52_15, x52_18, x52_21, x52_22, x52_25, x52_18a, x52_26, x52_29, x52_32, x52_33, gk_some, pk_some, qk_some, bnd_v, bnd_n, kl_int, kl_ref, kl_null, kl_un, Nat.reduceAdd, if_true, if_false, gl0, gl1, gl2, gl3, gl4, gl5, gl6, gl7, gl8, gl9, gl10, gl11, gl12, rvL, rvT, alL, ln1, ln2, ln3, hlt, h44, h58, puA, e1]
    · rw [e2] at h58
      simp only [x52_0, x52_1, x52_3, x52_6, x52_9, x52_10, x52_13, x52_14, x52_15, x52_18, x52_21, x52_22, x52_25, x52_18a, x52_26, x52_29, x52_32, x52_33, gk_some, pk_some, qk_some, bnd_v, bnd_n, kl_int, kl_ref, kl_null, kl_un, Nat.reduceAdd, if_true, if_false, gl0, gl1, gl2, gl3, gl4, gl5, gl6, gl7, gl8, gl9, gl10, gl11, gl12, rvL, rvT, alL, ln1, ln2, ln3, hlt, h44, h58, I_1, ih', puA, e1, reduceCtorEq]
theorem m52 (hp : 32 ≤ p) (w : WS S) (v : Int32) (k : minKN tk rt 300 (f, S)) : rcal 52 [.ref p, .int v] (put h p f tk rt ps S, r) = some (.inl (some (.int (puA tk rt v 300 (f, S)).1)), (put h p (puA tk rt v 300 (f, S)).2.1 tk rt ps (puA tk rt v 300 (f, S)).2.2, r)) := by
  have e := l52 h tk rt ps r hp v 300 0 (f, S) (by omega) w k
  rw [show I 0 = 0 from rfl] at e
  simp only [c52, x52_0, x52_1, x52_3, x52_6, x52_9, x52_10, x52_13, x52_14, x52_15, x52_18, x52_21, x52_22, x52_25, x52_18a, x52_26, x52_29, x52_32, x52_33, gk_some, pk_some, qk_some, bnd_v, bnd_n, kl_int, kl_ref, kl_null, kl_un, Nat.reduceAdd, if_true, if_false, e]
theorem l53 (hp : 32 ≤ p) : ∀ (c a : Nat) (q : LQ), a + c = 300 → WS q.2 → minKN tk rt c q → rn 53 2 [.ref p, .int (I a)] [] (put h p q.1 tk rt ps q.2, r) = some (.inl (some (.int ((puS tk rt c q).1 5))), (put h p (puS tk rt c q).1 tk rt ps (puS tk rt c q).2, r)) := by
  intro c
  induction c with
  | zero =>
    intro a q ha _ _
    have : a = 300 := by omega
    subst this
    rw [x53_2]
    simp only [x53_0, x53_1, x53_3, x53_6, x53_9, x53_10, x53_13, x53_16, x53_17, x53_20, x53_23, x53_26, x53_27, x53_30, gk_some, pk_some, qk_some, bnd_v, bnd_n, kl_int, kl_ref, kl_null, kl_un, Nat.reduceAdd, if_true, if_false, gl0, gl1, gl2, gl3, gl4, gl5, gl6, gl7, gl8, gl9, gl10, gl11, gl12, show ¬ I 300 < 300 by decide, puS]
  | succ c ih =>
    intro a q ha w k
    have hlt : I a < 300 := by rw [show (300 : Int32) = I 300 from rfl, I_lt (by omega) (by omega)]; omega
    have h44 := m44 h q.1 tk rt ps q.2 r hp w k.1
    obtain ⟨n, _, _, _, _, _, _, w2⟩ := k.1
    have ih' := ih (a + 1) (minQ tk rt q) (by omega) w2 k.2
    rw [x53_2]
    by_cases e : 0 < q.1 5
    · simp only [x53_0, x53_1, x53_3, x53_6, x53_9, x53_10, x53_13, x53_16, x53_17, x53_20, x53_23, x53_26, x53_27, x53_30, gk_some, pk_some, qk_some, bnd_v, bnd_n, kl_int, kl_ref, kl_null, kl_un, Nat.reduceAdd, if_true, if_false, gl0, gl1, gl2, gl3, gl4, gl5, gl6, gl7, gl8, gl9, gl10, gl11, gl12, rvL, rvT, alL, ln1, ln2, ln3, hlt, e, h44, I_1, ih', puS]
    · simp only [x53_0, x53_1, x53_3, x53_6, x53_9, x53_10, x53_13, x53_16, x53_17, x53_20, x53_23, x53_26, x53_27, x53_30, gk_some, pk_some, qk_some, bnd_v, bnd_n, kl_int, kl_ref, kl_null, kl_un, Nat.reduceAdd, if_true, if_false, gl0, gl1, gl2, gl3, gl4, gl5, gl6, gl7, gl8, gl9, gl10, gl11, gl12, rvL, rvT, alL, ln1, ln2, ln3, hlt, e, puS]
theorem m53 (hp : 32 ≤ p) (w : WS S) (k : minKN tk rt 300 (f, S)) : rcal 53 [.ref p] (put h p f tk rt ps S, r) = some (.inl (some (.int ((puS tk rt 300 (f, S)).1 5))), (put h p (puS tk rt 300 (f, S)).1 tk rt ps (puS tk rt 300 (f, S)).2, r)) := by
  have e := l53 h tk rt ps r hp 300 0 (f, S) (by omega) w k
  rw [show I 0 = 0 from rfl] at e
  simp only [c53, x53_0, x53_1, x53_3, x53_6, x53_9, x53_10, x53_13, x53_16, x53_17, x53_20, x53_23, x53_26, x53_27, x53_30, gk_some, pk_some, qk_some, bnd_v, bnd_n, kl_int, kl_ref, kl_null, kl_un, Nat.reduceAdd, if_true, if_false, e]
/-- a line with one train alone -/
def alo1 (v : Int32) (s : SL) : SL := if s.2.2 1 = v then (s.1, (s.2.1, up s.2.2 9 0)) else (s.1, (1, s.2.2))
theorem alo1_1 (v : Int32) (s : SL) : (alo1 v s).1 = s.1 := by unfold alo1; split <;> rfl
theorem l51 (hp : 32 ≤ p) (v : Int32) (b : Value) : ∀ (R D : List SL) (T : List SL) (i : Int32) (z : Value), T = D ++ R → WS T → i = I D.length → rn 51 17 [.ref p, b, .int v, .ref (p + 4), .int (I 6), .int i, z] [] (put h p f tk rt ps T, r) = some (.inl none, (put h p (up f 5 1) tk rt ps (D ++ R.map (alo1 v)), r)) := by
  intro R
  induction R with
  | nil =>
    intro D T i z hT w hi
    have hl := end_ w hT
    rw [x51_17]
    simp only [x51_0, x51_1, x51_2, x51_5, x51_6, x51_9, x51_10, x51_11, x51_12, x51_14, x51_15, x51_19, x51_21, x51_24, x51_25, x51_27, x51_28, x51_30, x51_32, x51_35, x51_36, x51_39, x51_41, x51_42, x51_45, x51_56, x51_59, x51_48, x51_50, x51_53, x51_62, x51_63, x51_64, x51_67, gk_some, pk_some, qk_some, bnd_v, bnd_n, kl_int, kl_ref, kl_null, kl_un, Nat.reduceAdd, if_true, if_false, pl0, pl5, pl6, pl7, pl8, pl9, pl10, pl11, pl12, hp, hi, hl, nlt6, List.map_nil, hT]
  | cons s R ih =>
    intro D T i z hT w hi
    obtain ⟨h1, h2, h3, h4, h5⟩ := mid_ w hT
    have ha := at_mid h f tk rt ps T r (p := p) hT (by rw [w.1]; decide)
    have hm : s ∈ T := by rw [hT]; simp
    have nd := w.2.1
    rw [hT] at nd
    have hup : ∀ t, upS T s.1 t = (D ++ [(s.1, t)]) ++ R := fun t => by rw [hT, upS_mid nd]; simp
    have w2 : WS (upS T s.1 (alo1 v s).2) := by
      refine WS_up w s.1 ?_ ?_
      · unfold alo1; split
        · exact h3
        · exact ⟨Nat.le_refl 1, show 1 ≤ 4 by decide⟩
      · unfold alo1; split
        · rfl
        · exact w.2.2.2.2 s hm
    have ih' := fun z => ih (D ++ [(s.1, (alo1 v s).2)]) (upS T s.1 (alo1 v s).2) (I D.length + 1) z (hup _) w2 (by rw [I_1]; simp)
    rw [x51_17]
    by_cases e : s.2.2 1 = v
    · have ea : alo1 v s = (s.1, (s.2.1, up s.2.2 9 0)) := by unfold alo1; rw [if_pos e]
      rw [ea] at ih'
      simp only [x51_0, x51_1, x51_2, x51_5, x51_6, x51_9, x51_10, x51_11, x51_12, x51_14, x51_15, x51_19, x51_21, x51_24, x51_25, x51_27, x51_28, x51_30, x51_32, x51_35, x51_36, x51_39, x51_41, x51_42, x51_45, x51_56, x51_59, x51_48, x51_50, x51_53, x51_62, x51_63, x51_64, x51_67, gk_some, pk_some, qk_some, bnd_v, bnd_n, kl_int, kl_ref, kl_null, kl_un, Nat.reduceAdd, if_true, if_false, gt0, gt1, gt2, gt3, gt4, gt5, gt6, gt7, gt8, gt9, gt10, gt11, rvL, rvT, alL, ln1, ln2, ln3, hi, h4, ha, h1, h2, e, pt9 h f tk rt ps T r hp h1 0 rfl, ih']
      rw [List.map_cons, ea]; simp
    · have ea : alo1 v s = (s.1, (1, s.2.2)) := by unfold alo1; rw [if_neg e]
      rw [ea] at ih'
      simp only [x51_0, x51_1, x51_2, x51_5, x51_6, x51_9, x51_10, x51_11, x51_12, x51_14, x51_15, x51_19, x51_21, x51_24, x51_25, x51_27, x51_28, x51_30, x51_32, x51_35, x51_36, x51_39, x51_41, x51_42, x51_45, x51_56, x51_59, x51_48, x51_50, x51_53, x51_62, x51_63, x51_64, x51_67, gk_some, pk_some, qk_some, bnd_v, bnd_n, kl_int, kl_ref, kl_null, kl_un, Nat.reduceAdd, if_true, if_false, gt0, gt1, gt2, gt3, gt4, gt5, gt6, gt7, gt8, gt9, gt10, gt11, rvL, rvT, alL, ln1, ln2, ln3, hi, h4, ha, h1, h2, e, pt0 h _ _ _ _ _ _ hp h1, ih']
      rw [List.map_cons, ea]; simp
theorem m51 (hp : 32 ≤ p) {q : Nat} {fq tq rq pq : Nat → Int32} {Sq : List SL} (hA : put h q fq tq rq pq Sq = h) (hq : 32 ≤ q) (w : WS S) (wq : WS Sq) (hd : q + 11 ≤ p ∨ p + 11 ≤ q) (v : Int32) : rcal 51 [.ref p, .ref q, .int v] (put h p f tk rt ps S, r) = some (.inl none, (put h p (up fq 5 1) tq rq pq ((zipT S Sq).map (alo1 v)), r)) := by
  have h35 := m35 h f tk rt ps S r hp hA hq w wq hd
  have wz := WS_zip w wq
  have e := l51 h fq tq rq pq r hp v (.ref q) (zipT S Sq) [] (zipT S Sq) 0 un rfl wz rfl
  rw [List.nil_append] at e
  simp only [c51, x51_0, x51_1, x51_2, x51_5, x51_6, x51_9, x51_10, x51_11, x51_12, x51_14, x51_15, x51_19, x51_21, x51_24, x51_25, x51_27, x51_28, x51_30, x51_32, x51_35, x51_36, x51_39, x51_41, x51_42, x51_45, x51_56, x51_59, x51_48, x51_50, x51_53, x51_62, x51_63, x51_64, x51_67, gk_some, pk_some, qk_some, bnd_v, bnd_n, kl_int, kl_ref, kl_null, kl_un, Nat.reduceAdd, if_true, if_false, gl0, gl1, gl2, gl3, gl4, gl5, gl6, gl7, gl8, gl9, gl10, gl11, gl12, rvL, rvT, alL, ln1, ln2, ln3, h35, wz.1, e]
theorem WS_alo {S : List SL} (w : WS S) (v : Int32) : WS (S.map (alo1 v)) := by
  refine ⟨by rw [List.length_map]; exact w.1, ?_, ?_, ?_, ?_⟩
  · unfold NDH; rw [List.map_map, show Prod.fst ∘ alo1 v = Prod.fst from funext (alo1_1 v)]; exact w.2.1
  · intro s hs
    obtain ⟨a, ha, rfl⟩ := List.mem_map.mp hs
    unfold alo1; split
    · exact w.2.2.1 a ha
    · exact ⟨Nat.le_refl 1, show 1 ≤ 4 by decide⟩
  · intro s hs
    obtain ⟨a, ha, rfl⟩ := List.mem_map.mp hs
    rw [alo1_1]; exact w.2.2.2.1 a ha
  · intro s hs
    obtain ⟨a, ha, rfl⟩ := List.mem_map.mp hs
    unfold alo1; split
    · rfl
    · exact w.2.2.2.2 a ha
theorem put_at {q : Nat} {fq tq rq pq : Nat → Int32} {Sq : List SL} (hA : put h q fq tq rq pq Sq = h) (w : WS S) (wq : WS Sq) (hd : q + 11 ≤ p ∨ p + 11 ≤ q) : put (put h p f tk rt ps S) q fq tq rq pq Sq = put h p f tk rt ps S := by
  funext b
  by_cases c : q ≤ b ∧ b < q + 11
  · rw [put_out h f tk rt ps w (show out_ p b by unfold out_; omega)]
    have hb : h b = put h q fq tq rq pq Sq b := by rw [hA]
    rw [hb]
    unfold put
    by_cases c1 : b = q
    · rw [if_pos c1, if_pos c1]
    · rw [if_neg c1, if_neg c1]
      by_cases c2 : b = q + 1
      · rw [if_pos c2, if_pos c2]
      · rw [if_neg c2, if_neg c2]
        by_cases c3 : b = q + 2
        · rw [if_pos c3, if_pos c3]
        · rw [if_neg c3, if_neg c3]
          by_cases c4 : b = q + 3
          · rw [if_pos c4, if_pos c4]
          · rw [if_neg c4, if_neg c4]
            by_cases c5 : b = q + 4
            · rw [if_pos c5, if_pos c5]
            · rw [if_neg c5, if_neg c5]
              by_cases c6 : q + 5 ≤ b
              · rw [if_pos c6, if_pos c6]
                cases e : lk Sq (b - (q + 5)) with
                | some t => rfl
                | none =>
                  have hk := put_out h f tk rt ps w (show out_ p b by unfold out_; omega)
                  unfold put at hk
                  simp only [] at hk ⊢
                  rw [hk]
              · omega
  · rw [put_out (put h p f tk rt ps S) fq tq rq pq wq (show out_ q b by unfold out_; omega)]
/-- what confirmsPlansOf asks of each train -/
def conK (fq tq rq : Nat → Int32) (Sq : List SL) (s : SL) : Prop := (s.2.1 = 2 ∧ fq 7 < s.2.2 4) → ∀ S : List SL, WS S → minKN tq rq 300 (up fq 5 1, (zipT S Sq).map (alo1 (s.2.2 1))) ∧ (puA tq rq (s.2.2 1) 300 (up fq 5 1, (zipT S Sq).map (alo1 (s.2.2 1)))).1 = s.2.2 5 ∧ WS (puA tq rq (s.2.2 1) 300 (up fq 5 1, (zipT S Sq).map (alo1 (s.2.2 1)))).2.2
theorem l54 (hp : 32 ≤ p) {q : Nat} {fq tq rq pq : Nat → Int32} {Sq : List SL} (hA : put h q fq tq rq pq Sq = h) (hq : 32 ≤ q) (wq : WS Sq) (hd : q + 11 ≤ p ∨ p + 11 ≤ q) (hc : ∀ s, s ∈ Sq → conK fq tq rq Sq s) : ∀ (R D : List SL) (i : Int32) (z : Value) (f tk rt ps : Nat → Int32) (S : List SL), Sq = D ++ R → i = I D.length → WS S → ∃ f' tk' rt' ps' S', WS S' ∧ rn 54 11 [.ref p, .ref q, .ref (q + 4), .int (I 6), .int i, z] [] (put h p f tk rt ps S, r) = some (.inl (some (.int 1)), (put h p f' tk' rt' ps' S', r)) := by
  intro R
  induction R with
  | nil =>
    intro D i z f tk rt ps S hS hi w
    have hl := end_ wq hS
    refine ⟨f, tk, rt, ps, S, w, ?_⟩
    rw [x54_11]
    simp only [x54_0, x54_1, x54_4, x54_5, x54_6, x54_7, x54_8, x54_9, x54_13, x54_14, x54_17, x54_18, x54_20, x54_21, x54_23, x54_24, x54_26, x54_29, x54_32, x54_33, x54_34, x54_36, x54_39, x54_42, x54_43, x54_45, x54_48, x54_51, x54_53, x54_56, x54_59, x54_60, x54_61, x54_64, x54_67, x54_68, gk_some, pk_some, qk_some, bnd_v, bnd_n, kl_int, kl_ref, kl_null, kl_un, Nat.reduceAdd, if_true, if_false, hi, hl, nlt6, fit1, fit0, fitb, b2i_t, b2i_f, reduceIte, decide_true, decide_false]
  | cons s R ih =>
    intro D i z f tk rt ps S hS hi w
    obtain ⟨h1, h2, h3, h4, h5⟩ := mid_ wq hS
    have hb := atq_mid h r hA hS (by rw [wq.1]; decide)
    have o4 : out_ p (q + 4) := by unfold out_; omega
    have ha : aald (put h p f tk rt ps S, r) (q + 4) (I D.length) = some (.ref (q + 5 + s.1)) := by rw [aald_out h f tk rt ps r w o4]; exact hb
    have h63 := m63 (put h p f tk rt ps S) fq tq rq pq Sq r (p := q) h1 (by rw [h2]; exact h3)
    have hrv := rvL (put h p f tk rt ps S) q fq tq rq pq Sq r
    rw [put_at h f tk rt ps S hA w wq hd] at h63 hrv
    rw [h2] at h63
    have hg1 := gt1 (put h p f tk rt ps S) q fq tq rq pq Sq r h1
    rw [put_at h f tk rt ps S hA w wq hd, h2] at hg1
    by_cases e : s.2.1 = 2 ∧ fq 7 < s.2.2 4
    · obtain ⟨k1, k2, k3⟩ := hc s (by rw [hS]; simp) e S w
      have h51 := m51 h f tk rt ps S r hp hA hq w wq hd (s.2.2 1)
      have wz := WS_alo (WS_zip w wq) (s.2.2 1)
      have h52 := m52 h (up fq 5 1) tq rq pq ((zipT S Sq).map (alo1 (s.2.2 1))) r hp wz (s.2.2 1) k1
      rw [k2] at h52
      have hg2 := gt1 (put h p (up fq 5 1) tq rq pq ((zipT S Sq).map (alo1 (s.2.2 1)))) q fq tq rq pq Sq r h1
      rw [put_at h _ _ _ _ _ hA wz wq hd, h2] at hg2
      have hg3 := gt5 (put h p (puA tq rq (s.2.2 1) 300 (up fq 5 1, (zipT S Sq).map (alo1 (s.2.2 1)))).2.1 tq rq pq (puA tq rq (s.2.2 1) 300 (up fq 5 1, (zipT S Sq).map (alo1 (s.2.2 1)))).2.2) q fq tq rq pq Sq r h1
      rw [put_at h _ _ _ _ _ hA k3 wq hd, h2] at hg3
      obtain ⟨f', tk', rt', ps', S', w', e'⟩ := ih (D ++ [s]) (I D.length + 1) (.ref (q + 5 + s.1)) (puA tq rq (s.2.2 1) 300 (up fq 5 1, (zipT S Sq).map (alo1 (s.2.2 1)))).2.1 tq rq pq (puA tq rq (s.2.2 1) 300 (up fq 5 1, (zipT S Sq).map (alo1 (s.2.2 1)))).2.2 (sub_ hS) (len_ D s) k3
      refine ⟨f', tk', rt', ps', S', w', ?_⟩
      rw [x54_11]
      simp only [x54_0, x54_1, x54_4, x54_5, x54_6, x54_7, x54_8, x54_9, x54_13, x54_14, x54_17, x54_18, x54_20, x54_21, x54_23, x54_24, x54_26, x54_29, x54_32, x54_33, x54_34, x54_36, x54_39, x54_42, x54_43, x54_45, x54_48, x54_51, x54_53, x54_56, x54_59, x54_60, x54_61, x54_64, x54_67, x54_68, gk_some, pk_some, qk_some, bnd_v, bnd_n, kl_int, kl_ref, kl_null, kl_un, Nat.reduceAdd, if_true, if_false, hi, h4, ha, h63, hrv, e, fit1, fit0, fitb, b2i_t, b2i_f, reduceIte, decide_true, decide_false, and_self, ne10, hg1, rvL, rvT, alL, ln1, ln2, ln3, h51, hg2, h52, hg3, e']
    · obtain ⟨f', tk', rt', ps', S', w', e'⟩ := ih (D ++ [s]) (I D.length + 1) (.ref (q + 5 + s.1)) f tk rt ps S (sub_ hS) (len_ D s) w
      refine ⟨f', tk', rt', ps', S', w', ?_⟩
      rw [x54_11]
      simp only [x54_0, x54_1, x54_4, x54_5, x54_6, x54_7, x54_8, x54_9, x54_13, x54_14, x54_17, x54_18, x54_20, x54_21, x54_23, x54_24, x54_26, x54_29, x54_32, x54_33, x54_34, x54_36, x54_39, x54_42, x54_43, x54_45, x54_48, x54_51, x54_53, x54_56, x54_59, x54_60, x54_61, x54_64, x54_67, x54_68, gk_some, pk_some, qk_some, bnd_v, bnd_n, kl_int, kl_ref, kl_null, kl_un, Nat.reduceAdd, if_true, if_false, hi, h4, ha, h63, hrv, e, fit1, fit0, fitb, b2i_t, b2i_f, reduceIte, decide_true, decide_false, Bool.false_eq_true, e']
theorem m54 (hp : 32 ≤ p) {q : Nat} {fq tq rq pq : Nat → Int32} {Sq : List SL} (hA : put h q fq tq rq pq Sq = h) (hq : 32 ≤ q) (w : WS S) (wq : WS Sq) (hd : q + 11 ≤ p ∨ p + 11 ≤ q) (hc : ∀ s, s ∈ Sq → conK fq tq rq Sq s) : ∃ f' tk' rt' ps' S', WS S' ∧ rcal 54 [.ref p, .ref q] (put h p f tk rt ps S, r) = some (.inl (some (.int 1)), (put h p f' tk' rt' ps' S', r)) := by
  obtain ⟨f', tk', rt', ps', S', w', e⟩ := l54 h r hp hA hq wq hd hc Sq [] 0 un f tk rt ps S rfl rfl w
  refine ⟨f', tk', rt', ps', S', w', ?_⟩
  have o0 : out_ p q := by unfold out_; omega
  have hal := alL (put h p f tk rt ps S) q fq tq rq pq Sq r
  rw [put_at h f tk rt ps S hA w wq hd, wq.1] at hal
  simp only [c54, x54_0, x54_1, x54_4, x54_5, x54_6, x54_7, x54_8, x54_9, x54_13, x54_14, x54_17, x54_18, x54_20, x54_21, x54_23, x54_24, x54_26, x54_29, x54_32, x54_33, x54_34, x54_36, x54_39, x54_42, x54_43, x54_45, x54_48, x54_51, x54_53, x54_56, x54_59, x54_60, x54_61, x54_64, x54_67, x54_68, gk_some, pk_some, qk_some, bnd_v, bnd_n, kl_int, kl_ref, kl_null, kl_un, Nat.reduceAdd, if_true, if_false, gOut h f tk rt ps w r o0, gq4 hA, hal, e]
end FORE
