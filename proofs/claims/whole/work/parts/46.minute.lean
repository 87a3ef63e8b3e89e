/-! one minute of a line -/
def iabs (x : Int32) : Int32 := if 0 ≤ x then x else 0 - x
def imax (x y : Int32) : Int32 := if x < y then y else x
def imin (x y : Int32) : Int32 := if x < y then x else y
/-- the totals when t finishes -/
def finF (f : Nat → Int32) (t : TR) : Nat → Int32 :=
  up (up (up (up (if f 7 - t.2 5 = 0 then up (up f 11 (imax (f 11) (f 7 - t.2 5))) 12 (f 12 + 1) else up f 11 (imax (f 11) (f 7 - t.2 5))) 10 (f 10 + (f 7 - t.2 5))) 8 (f 8 + 1)) 9 (t.2 1)) 5 (f 5 - 1)
def arr1 (f : Nat → Int32) (S : List SL) (j : Nat) : (Nat → Int32) × List SL :=
  if (tr S j).2 6 = (tr S j).2 3 then (finF f (tr S j), remS S j) else (f, upS S j (3, up (up (tr S j).2 6 ((tr S j).2 6)) 11 (f 7)))
def mv1 (k : Int32) (q : (Nat → Int32) × List SL) : (Nat → Int32) × List SL := match q.2.find? (holP k) with
  | none => q
  | some s => if 0 < s.2.2 8 - 1 then (q.1, upS q.2 s.1 (s.2.1, up s.2.2 8 (s.2.2 8 - 1))) else arr1 q.1 (upS q.2 s.1 (s.2.1, up s.2.2 8 (s.2.2 8 - 1))) s.1
def mvN : Nat → Nat → (Nat → Int32) × List SL → (Nat → Int32) × List SL
  | _, 0, q => q
  | a, c + 1, q => mvN (a + 1) c (mv1 (I a) q)
def br1 (f tk : Nat → Int32) (S : List SL) (j : Nat) : List SL :=
  if (tr S j).1 = 2 ∧ ¬ f 7 < (tr S j).2 4 ∧ 0 < freN tk S ((tr S j).2 2) then upS S j (3, up (up (tr S j).2 6 ((tr S j).2 2)) 11 (f 7)) else S
def nx1 (pv : Option TR) (a : Option SL) (s : SL) : Option SL := if s.2.1 ≠ 1 ∧ (match pv with
    | none => true
    | some t => lvB t s.2) = true ∧ (match a with
    | none => true
    | some q => lvB s.2 q.2) = true then some s else a
def nxS (pv : Option TR) (S : List SL) : Option SL := S.foldl (nx1 pv) none
def try1 (f tk rt : Nat → Int32) (S : List SL) (j : Nat) : List SL :=
  if ((tr S j).2 6 + stp_ (tr S j) = (tr S j).2 3 ∨ 0 < freN tk S ((tr S j).2 6 + stp_ (tr S j))) ∧ S.find? (holP (imin ((tr S j).2 6 + stp_ (tr S j)) ((tr S j).2 6))) = none
  then upS S j (4, up (up (up (tr S j).2 7 (imin ((tr S j).2 6 + stp_ (tr S j)) ((tr S j).2 6))) 6 ((tr S j).2 6 + stp_ (tr S j))) 8 (rt (imin ((tr S j).2 6 + stp_ (tr S j)) ((tr S j).2 6)).toNatClampNeg))
  else upS S j ((tr S j).1, up (tr S j).2 10 ((tr S j).2 10 + 1))
def go1 (f tk rt : Nat → Int32) (S : List SL) (j : Nat) : List SL :=
  if (tr S j).1 = 3 ∧ ¬ (tr S j).2 11 = f 7 ∧ (tr S j).2 9 = 0 then try1 f tk rt S j else S
def goN (f tk rt : Nat → Int32) : Nat → Option SL → List SL → List SL
  | 0, _, S => S
  | _ + 1, none, S => S
  | c + 1, some s, S => goN f tk rt c (nxS (some (tr (go1 f tk rt S s.1) s.1)) (go1 f tk rt S s.1)) (go1 f tk rt S s.1)
section MIN
variable (h : PH) {p : Nat} (f tk rt ps : Nat → Int32) (S : List SL) (r : Nat × Nat × Nat) {j i : Nat}
/-- no overflow when j's delay is added -/
def add_ok (f : Nat → Int32) (t : TR) : Prop := (f 10).toInt64 + (f 7 - t.2 5).toInt64 = (f 10 + (f 7 - t.2 5)).toInt64
theorem m46 (hp : 32 ≤ p) (w : WS S) (hj : has S j) (ho : (tr S j).2 6 = (tr S j).2 3 → add_ok f (tr S j)) : rcal 46 [.ref p, .ref (p + 5 + j)] (put h p f tk rt ps S, r) = some (.inl none, (put h p (arr1 f S j).1 tk rt ps (arr1 f S j).2, r)) := by
  simp only [c46, x46_0, x46_1, x46_4, x46_5, x46_8, x46_11, x46_12, x46_13, x46_16, x46_17, x46_20, x46_23, x46_24, x46_25, x46_28, x46_29, x46_32, x46_33, x46_34, x46_35, x46_36, x46_39, x46_40, x46_43, x46_46, x46_47, x46_50, x46_51, x46_52, x46_55, x46_56, x46_57, x46_60, x46_61, x46_62, x46_65, x46_66, x46_67, x46_68, x46_71, x46_72, x46_73, x46_76, x46_77, x46_78, x46_81, x46_82, x46_83, x46_86, x46_89, x46_90, x46_91, x46_94, gk_some, pk_some, qk_some, bnd_v, bnd_n, kl_int, kl_ref, kl_null, kl_un, Nat.reduceAdd, if_true, if_false, gl0, gl1, gl2, gl3, gl4, gl5, gl6, gl7, gl8, gl9, gl10, gl11, gl12, gt0, gt1, gt2, gt3, gt4, gt5, gt6, gt7, gt8, gt9, gt10, gt11, rvL, rvT, alL, ln1, ln2, ln3, hj, m85 h _ _ _ _ _ _ hp hj, pl0, pl5, pl6, pl7, pl8, pl9, pl10, pl11, pl12, hp, up_eq, up_ne, ne_eq, not_false_eq_true, Nat.reduceEqDiff]
  by_cases e : (tr S j).2 6 = (tr S j).2 3
  · have ho' := ho e
    unfold add_ok at ho'
    by_cases e2 : f 7 - (tr S j).2 5 = 0
    · rw [e2] at ho'
      simp only [e, e2, fit1, fit0, fitb, b2i_t, b2i_f, reduceIte, decide_true, decide_false, arr1, up_eq, up_ne, ne_eq, not_false_eq_true, Nat.reduceEqDiff, gl0, gl1, gl2, gl3, gl4, gl5, gl6, gl7, gl8, gl9, gl10, gl11, gl12, gt0, gt1, gt2, gt3, gt4, gt5, gt6, gt7, gt8, gt9, gt10, gt11, pl0, pl5, pl6, pl7, pl8, pl9, pl10, pl11, pl12, hp, hj, gk_some, pk_some, qk_some, bnd_v, bnd_n, kl_int, kl_ref, kl_null, kl_un, Nat.reduceAdd, if_true, if_false, ho', m43 h _ _ _ _ _ _ hp w hj, finF, imax, x46_0, x46_1, x46_4, x46_5, x46_8, x46_11, x46_12, x46_13, x46_16, x46_17, x46_20, x46_23, x46_24, x46_25, x46_28, x46_29, x46_32, x46_33, x46_34, x46_35, x46_36, x46_39, x46_40, x46_43, x46_46, x46_47, x46_50, x46_51, x46_52, x46_55, x46_56, x46_57, x46_60, x46_61, x46_62, x46_65, x46_66, x46_67, x46_68, x46_71, x46_72, x46_73, x46_76, x46_77, x46_78, x46_81, x46_82, x46_83, x46_86, x46_89, x46_90, x46_91, x46_94, rvL, rvT, alL, ln1, ln2, ln3]
    · simp only [e, e2, fit1, fit0, fitb, b2i_t, b2i_f, reduceIte, decide_true, decide_false, arr1, up_eq, up_ne, ne_eq, not_false_eq_true, Nat.reduceEqDiff, gl0, gl1, gl2, gl3, gl4, gl5, gl6, gl7, gl8, gl9, gl10, gl11, gl12, gt0, gt1, gt2, gt3, gt4, gt5, gt6, gt7, gt8, gt9, gt10, gt11, pl0, pl5, pl6, pl7, pl8, pl9, pl10, pl11, pl12, hp, hj, gk_some, pk_some, qk_some, bnd_v, bnd_n, kl_int, kl_ref, kl_null, kl_un, Nat.reduceAdd, if_true, if_false, ho', m43 h _ _ _ _ _ _ hp w hj, finF, imax, x46_0, x46_1, x46_4, x46_5, x46_8, x46_11, x46_12, x46_13, x46_16, x46_17, x46_20, x46_23, x46_24, x46_25, x46_28, x46_29, x46_32, x46_33, x46_34, x46_35, x46_36, x46_39, x46_40, x46_43, x46_46, x46_47, x46_50, x46_51, x46_52, x46_55, x46_56, x46_57, x46_60, x46_61, x46_62, x46_65, x46_66, x46_67, x46_68, x46_71, x46_72, x46_73, x46_76, x46_77, x46_78, x46_81, x46_82, x46_83, x46_86, x46_89, x46_90, x46_91, x46_94, rvL, rvT, alL, ln1, ln2, ln3]
  · simp only [e, fit1, fit0, fitb, b2i_t, b2i_f, reduceIte, decide_true, decide_false, arr1]
theorem find_has {S : List SL} {P : SL → Bool} {s : SL} (nd : NDH S) (e : S.find? P = some s) : has S s.1 ∧ tr S s.1 = s.2 ∧ s ∈ S ∧ P s = true := by
  have hm := List.mem_of_find?_eq_some e
  obtain ⟨D, R, hS⟩ := List.append_of_mem hm
  exact ⟨has_mid nd hS, tr_mid nd hS, hm, List.find?_some e⟩
def mvK (k : Int32) (q : (Nat → Int32) × List SL) : Prop := WS q.2 ∧ ∀ s, q.2.find? (holP k) = some s → ¬ 0 < s.2.2 8 - 1 → s.2.2 6 = s.2.2 3 → add_ok q.1 s.2
def mvKN : Nat → Nat → (Nat → Int32) × List SL → Prop
  | _, 0, _ => True
  | a, c + 1, q => mvK (I a) q ∧ mvKN (a + 1) c (mv1 (I a) q)
theorem finF_0 (f : Nat → Int32) (t : TR) : finF f t 0 = f 0 := by
  unfold finF
  by_cases e : f 7 - t.2 5 = 0
  · rw [if_pos e]; simp [up]
  · rw [if_neg e]; simp [up]
theorem mv1_0 (k : Int32) (q : (Nat → Int32) × List SL) : (mv1 k q).1 0 = q.1 0 := by
  unfold mv1
  cases q.2.find? (holP k) with
  | none => rfl
  | some s =>
    simp only []
    by_cases e : 0 < s.2.2 8 - 1
    · rw [if_pos e]
    · rw [if_neg e]; unfold arr1
      split
      · exact finF_0 _ _
      · rfl
theorem l45 (hp : 32 ≤ p) {n : Nat} (h7 : n ≤ 7) (h1n : 1 ≤ n) : ∀ (c a : Nat) (q : (Nat → Int32) × List SL) (z : Value), a + c = n - 1 → q.1 0 = I n → mvKN a c q → rn 45 2 [.ref p, .int (I a), z] [] (put h p q.1 tk rt ps q.2, r) = some (.inl none, (put h p (mvN a c q).1 tk rt ps (mvN a c q).2, r)) := by
  intro c
  induction c with
  | zero =>
    intro a q z ha h0 _
    have hlt : ¬ I a < I (n - 1) := by rw [I_lt (by omega) (by omega)]; omega
    rw [x45_2]
    simp only [x45_0, x45_1, x45_3, x45_4, x45_7, x45_8, x45_9, x45_12, x45_13, x45_14, x45_17, x45_18, x45_18n, x45_19, x45_44, x45_47, x45_19a, x45_22, x45_23, x45_24, x45_27, x45_28, x45_29, x45_32, x45_33, x45_36, x45_39, x45_40, x45_41, x45_17a, x45_50, gk_some, pk_some, qk_some, bnd_v, bnd_n, kl_int, kl_ref, kl_null, kl_un, Nat.reduceAdd, if_true, if_false, gl0, gl1, gl2, gl3, gl4, gl5, gl6, gl7, gl8, gl9, gl10, gl11, gl12, h0, I_sub1 h1n, hlt, mvN]
  | succ c ih =>
    intro a q z ha h0 hK
    have hlt : I a < I (n - 1) := by rw [I_lt (by omega) (by omega)]; omega
    obtain ⟨⟨w, hadd⟩, hK2⟩ := hK
    have hm := m59 h q.1 tk rt ps q.2 r (p := p) w (I a)
    have ih' := fun z => ih (a + 1) (mv1 (I a) q) z (by omega) (by rw [mv1_0]; exact h0) hK2
    rw [x45_2]
    cases e : q.2.find? (holP (I a)) with
    | none =>
      have e1 : mv1 (I a) q = q := by unfold mv1; rw [e]
      rw [e1] at ih'
      rw [e] at hm
      simp only [x45_0, x45_1, x45_3, x45_4, x45_7, x45_8, x45_9, x45_12, x45_13, x45_14, x45_17, x45_18, x45_18n, x45_19, x45_44, x45_47, x45_19a, x45_22, x45_23, x45_24, x45_27, x45_28, x45_29, x45_32, x45_33, x45_36, x45_39, x45_40, x45_41, x45_17a, x45_50, gk_some, pk_some, qk_some, bnd_v, bnd_n, kl_int, kl_ref, kl_null, kl_un, Nat.reduceAdd, if_true, if_false, gl0, gl1, gl2, gl3, gl4, gl5, gl6, gl7, gl8, gl9, gl10, gl11, gl12, rvL, rvT, alL, ln1, ln2, ln3, h0, I_sub1 h1n, hlt, hm, refO, I_1, ih', mvN, e1]
    | some s =>
      obtain ⟨g1, g2, g3, g4⟩ := find_has w.2.1 e
      rw [e] at hm
      have hadd' := hadd s e
      have g1' : has (upS q.2 s.1 (s.2.1, up s.2.2 8 (s.2.2 8 - 1))) s.1 := (has_up _ _ _ _).mpr g1
      have w' : WS (upS q.2 s.1 (s.2.1, up s.2.2 8 (s.2.2 8 - 1))) := WS_up w s.1 (w.2.2.1 s g3) (by simpa [up] using w.2.2.2.2 s g3)
      by_cases e2 : 0 < s.2.2 8 - 1
      · have e1 : mv1 (I a) q = (q.1, upS q.2 s.1 (s.2.1, up s.2.2 8 (s.2.2 8 - 1))) := by unfold mv1; rw [e]; simp only [e2, if_true]
        rw [e1] at ih'
        simp only [x45_0, x45_1, x45_3, x45_4, x45_7, x45_8, x45_9, x45_12, x45_13, x45_14, x45_17, x45_18, x45_18n, x45_19, x45_44, x45_47, x45_19a, x45_22, x45_23, x45_24, x45_27, x45_28, x45_29, x45_32, x45_33, x45_36, x45_39, x45_40, x45_41, x45_17a, x45_50, gk_some, pk_some, qk_some, bnd_v, bnd_n, kl_int, kl_ref, kl_null, kl_un, Nat.reduceAdd, if_true, if_false, gl0, gl1, gl2, gl3, gl4, gl5, gl6, gl7, gl8, gl9, gl10, gl11, gl12, gt0, gt1, gt2, gt3, gt4, gt5, gt6, gt7, gt8, gt9, gt10, gt11, rvL, rvT, alL, ln1, ln2, ln3, h0, I_sub1 h1n, hlt, hm, refO, I_1, g1, g2, pt8 h _ _ _ _ _ _ hp g1, g1', tr_up g1, up_eq, up_ne, ne_eq, not_false_eq_true, Nat.reduceEqDiff, e2, ih', mvN, e1]
      · have e1 : mv1 (I a) q = arr1 q.1 (upS q.2 s.1 (s.2.1, up s.2.2 8 (s.2.2 8 - 1))) s.1 := by unfold mv1; rw [e]; simp only [e2, if_false]
        rw [e1] at ih'
        have h46 := m46 h q.1 tk rt ps (upS q.2 s.1 (s.2.1, up s.2.2 8 (s.2.2 8 - 1))) r hp w' g1' (by rw [tr_up g1]; simpa [up, add_ok] using hadd' e2)
        simp only [x45_0, x45_1, x45_3, x45_4, x45_7, x45_8, x45_9, x45_12, x45_13, x45_14, x45_17, x45_18, x45_18n, x45_19, x45_44, x45_47, x45_19a, x45_22, x45_23, x45_24, x45_27, x45_28, x45_29, x45_32, x45_33, x45_36, x45_39, x45_40, x45_41, x45_17a, x45_50, gk_some, pk_some, qk_some, bnd_v, bnd_n, kl_int, kl_ref, kl_null, kl_un, Nat.reduceAdd, if_true, if_false, gl0, gl1, gl2, gl3, gl4, gl5, gl6, gl7, gl8, gl9, gl10, gl11, gl12, gt0, gt1, gt2, gt3, gt4, gt5, gt6, gt7, gt8, gt9, gt10, gt11, rvL, rvT, alL, ln1, ln2, ln3, h0, I_sub1 h1n, hlt, hm, refO, I_1, g1, g2, pt8 h _ _ _ _ _ _ hp g1, g1', tr_up g1, up_eq, up_ne, ne_eq, not_false_eq_true, Nat.reduceEqDiff, e2, h46, ih', mvN, e1]
theorem m45 (hp : 32 ≤ p) {n : Nat} (h7 : n ≤ 7) (hn : f 0 = I n) (hK : mvKN 0 (n - 1) (f, S)) : rcal 45 [.ref p] (put h p f tk rt ps S, r) = some (.inl none, (put h p (mvN 0 (n - 1) (f, S)).1 tk rt ps (mvN 0 (n - 1) (f, S)).2, r)) := by
  by_cases h1n : 1 ≤ n
  · have e : rn 45 2 [.ref p, .int 0, un] [] (put h p f tk rt ps S, r) = _ := l45 h tk rt ps r hp h7 h1n (n - 1) 0 (f, S) un (by omega) hn hK
    simp only [c45, x45_0, x45_1, x45_3, x45_4, x45_7, x45_8, x45_9, x45_12, x45_13, x45_14, x45_17, x45_18, x45_18n, x45_19, x45_44, x45_47, x45_19a, x45_22, x45_23, x45_24, x45_27, x45_28, x45_29, x45_32, x45_33, x45_36, x45_39, x45_40, x45_41, x45_17a, x45_50, gk_some, pk_some, qk_some, bnd_v, bnd_n, kl_int, kl_ref, kl_null, kl_un, Nat.reduceAdd, if_true, if_false, e]
  · have h0 : n = 0 := by omega
    subst h0
    simp only [c45, x45_0, x45_1, x45_2, x45_3, x45_4, x45_7, x45_8, x45_9, x45_12, x45_13, x45_14, x45_17, x45_18, x45_18n, x45_19, x45_44, x45_47, x45_19a, x45_22, x45_23, x45_24, x45_27, x45_28, x45_29, x45_32, x45_33, x45_36, x45_39, x45_40, x45_41, x45_17a, x45_50, gk_some, pk_some, qk_some, bnd_v, bnd_n, kl_int, kl_ref, kl_null, kl_un, Nat.reduceAdd, if_true, if_false, gl0, gl1, gl2, gl3, gl4, gl5, gl6, gl7, gl8, gl9, gl10, gl11, gl12, hn, show ¬ (0 : Int32) < I 0 - 1 by decide, mvN]
    rfl
theorem fst_up_mem {S : List SL} {DJ J : List Nat} {j : Nat} (w : WS S) (hJ : S.map Prod.fst = DJ ++ j :: J) : ∃ D R, S = D ++ (j, tr S j) :: R ∧ D.length = DJ.length := by
  obtain ⟨D, R', e1, e2, e3⟩ := List.map_eq_append_iff.mp hJ
  obtain ⟨s, R, f1, f2, f3⟩ := List.map_eq_cons_iff.mp e3
  subst f1
  have ht := tr_mid w.2.1 e1
  refine ⟨D, R, ?_, by rw [← e2]; simp⟩
  rw [← f2, ht]
  exact e1
def brK (n : Nat) (S : List SL) : Prop := WS S ∧ ∀ s, s ∈ S → s.2.1 = 2 → ¬ s.2.2 2 < 0 ∧ s.2.2 2 < I n
theorem br_K {n : Nat} {S : List SL} (k : brK n S) (j : Nat) (hj : has S j) : brK n (br1 f tk S j) := by
  unfold br1
  split
  · obtain ⟨D, R, hS⟩ := has_ex hj
    have hm : (j, tr S j) ∈ S := (congrArg (fun l => (j, tr S j) ∈ l) hS).mpr (List.mem_append_right _ List.mem_cons_self)
    refine ⟨WS_up k.1 j (show 1 ≤ 3 ∧ 3 ≤ 4 by decide) (by simpa [up] using k.1.2.2.2.2 _ hm), ?_⟩
    intro s hs h2
    obtain ⟨a, ha, rfl⟩ := List.mem_map.mp hs
    by_cases c : a.1 = j
    · rw [if_pos c] at h2; cases h2
    · rw [if_neg c] at h2 ⊢; exact k.2 a ha h2
  · exact k
theorem br1_fst (S : List SL) (j : Nat) : (br1 f tk S j).map Prod.fst = S.map Prod.fst := by
  unfold br1
  split
  · exact upS_fst _ _ _
  · rfl
theorem l47 (hp : 32 ≤ p) {n : Nat} (h7 : n ≤ 7) (hn : f 0 = I n) : ∀ (J DJ : List Nat) (S : List SL) (i : Int32) (z : Value), S.map Prod.fst = DJ ++ J → i = I DJ.length → brK n S → rn 47 10 [.ref p, .ref (p + 4), .int (I 6), .int i, z] [] (put h p f tk rt ps S, r) = some (.inl none, (put h p f tk rt ps (J.foldl (br1 f tk) S), r)) := by
  intro J
  induction J with
  | nil =>
    intro DJ S i z hJ hi k
    have h6 : DJ.length = 6 := by have := congrArg List.length hJ; simpa [k.1.1] using this.symm
    rw [x47_10]
    simp only [x47_0, x47_1, x47_4, x47_5, x47_6, x47_7, x47_8, x47_9, x47_11, x47_12, x47_15, x47_16, x47_17, x47_18, x47_20, x47_22, x47_25, x47_28, x47_31, x47_33, x47_36, x47_37, x47_40, x47_43, x47_44, x47_46, x47_49, x47_52, x47_55, x47_57, x47_59, x47_62, x47_63, x47_66, x47_69, x47_72, x47_75, gk_some, pk_some, qk_some, bnd_v, bnd_n, kl_int, kl_ref, kl_null, kl_un, Nat.reduceAdd, if_true, if_false, hi, h6, nlt6, List.foldl_nil]
  | cons j J ih =>
    intro DJ S i z hJ hi k
    obtain ⟨D, R, hS, hD⟩ := fst_up_mem k.1 hJ
    obtain ⟨h1, h2, h3, h4, h5⟩ := mid_ k.1 hS
    have ha := at_mid h f tk rt ps S r (p := p) hS (by rw [k.1.1]; decide)
    simp only [] at h1 h2 h3 ha
    have hm : (j, tr S j) ∈ S := (congrArg (fun l => (j, tr S j) ∈ l) hS).mpr (List.mem_append_right _ List.mem_cons_self)
    have ih' := fun z => ih (DJ ++ [j]) (br1 f tk S j) (I DJ.length + 1) z (by rw [br1_fst, hJ]; simp) (by rw [I_1]; simp) (br_K f tk k j h1)
    rw [hD] at ha h4
    rw [x47_10]
    simp only [x47_0, x47_1, x47_4, x47_5, x47_6, x47_7, x47_8, x47_9, x47_11, x47_12, x47_15, x47_16, x47_17, x47_18, x47_20, x47_22, x47_25, x47_28, x47_31, x47_33, x47_36, x47_37, x47_40, x47_43, x47_44, x47_46, x47_49, x47_52, x47_55, x47_57, x47_59, x47_62, x47_63, x47_66, x47_69, x47_72, x47_75, gk_some, pk_some, qk_some, bnd_v, bnd_n, kl_int, kl_ref, kl_null, kl_un, Nat.reduceAdd, if_true, if_false, gl0, gl1, gl2, gl3, gl4, gl5, gl6, gl7, gl8, gl9, gl10, gl11, gl12, gt0, gt1, gt2, gt3, gt4, gt5, gt6, gt7, gt8, gt9, gt10, gt11, rvL, rvT, alL, ln1, ln2, ln3, hi, h4, ha, h1, req_pl h3 (by decide : 1 ≤ 2 ∧ 2 ≤ 4), List.foldl_cons]
    by_cases e : (tr S j).1 = 2
    · by_cases e2 : f 7 < (tr S j).2 4
      · have eb : br1 f tk S j = S := by unfold br1; rw [if_neg (fun q => q.2.1 e2)]
        rw [eb] at ih' ⊢
        simp only [e, e2, fit1, fit0, fitb, b2i_t, b2i_f, reduceIte, decide_true, decide_false, ih']
      · obtain ⟨k1, k2⟩ := k.2 _ hm e
        have h60 := m60 h f tk rt ps S r (p := p) k.1 hn h7 k1 k2
        by_cases e3 : 0 < freN tk S ((tr S j).2 2)
        · have eb : br1 f tk S j = upS S j (3, up (up (tr S j).2 6 ((tr S j).2 2)) 11 (f 7)) := by unfold br1; rw [if_pos ⟨e, e2, e3⟩]
          rw [eb] at ih' ⊢
          simp only [e, e2, fit1, fit0, fitb, b2i_t, b2i_f, reduceIte, decide_true, decide_false, h60, x47_0, x47_1, x47_4, x47_5, x47_6, x47_7, x47_8, x47_9, x47_11, x47_12, x47_15, x47_16, x47_17, x47_18, x47_20, x47_22, x47_25, x47_28, x47_31, x47_33, x47_36, x47_37, x47_40, x47_43, x47_44, x47_46, x47_49, x47_52, x47_55, x47_57, x47_59, x47_62, x47_63, x47_66, x47_69, x47_72, x47_75, gk_some, pk_some, qk_some, bnd_v, bnd_n, kl_int, kl_ref, kl_null, kl_un, Nat.reduceAdd, if_true, if_false, gl0, gl1, gl2, gl3, gl4, gl5, gl6, gl7, gl8, gl9, gl10, gl11, gl12, gt0, gt1, gt2, gt3, gt4, gt5, gt6, gt7, gt8, gt9, gt10, gt11, rvL, rvT, alL, ln1, ln2, ln3, h1, e3, m85 h _ _ _ _ _ _ hp h1, ih']
        · have eb : br1 f tk S j = S := by unfold br1; rw [if_neg (fun q => e3 q.2.2)]
          rw [eb] at ih' ⊢
          simp only [e, e2, fit1, fit0, fitb, b2i_t, b2i_f, reduceIte, decide_true, decide_false, h60, x47_0, x47_1, x47_4, x47_5, x47_6, x47_7, x47_8, x47_9, x47_11, x47_12, x47_15, x47_16, x47_17, x47_18, x47_20, x47_22, x47_25, x47_28, x47_31, x47_33, x47_36, x47_37, x47_40, x47_43, x47_44, x47_46, x47_49, x47_52, x47_55, x47_57, x47_59, x47_62, x47_63, x47_66, x47_69, x47_72, x47_75, gk_some, pk_some, qk_some, bnd_v, bnd_n, kl_int, kl_ref, kl_null, kl_un, Nat.reduceAdd, if_true, if_false, gl0, gl1, gl2, gl3, gl4, gl5, gl6, gl7, gl8, gl9, gl10, gl11, gl12, gt0, gt1, gt2, gt3, gt4, gt5, gt6, gt7, gt8, gt9, gt10, gt11, rvL, rvT, alL, ln1, ln2, ln3, h1, e3, ih']
    · have eb : br1 f tk S j = S := by unfold br1; rw [if_neg (fun q => e q.1)]
      rw [eb] at ih' ⊢
      simp only [e, fit1, fit0, fitb, b2i_t, b2i_f, reduceIte, decide_true, decide_false, Bool.false_eq_true, ih']
/-- a home or null -/
def refH (p : Nat) (o : Option Nat) : Value := match o with
  | some j => .ref (p + 5 + j)
  | none => .null
theorem kl_refH (p : Nat) (o : Option Nat) : kl (refH p o) = refH p o := by cases o <;> rfl
theorem kl_refO (p : Nat) (o : Option SL) : kl (refO p o) = refO p o := by cases o <;> rfl
def nxK (S : List SL) (a : Option SL) : Prop := ∀ q, a = some q → has S q.1 ∧ tr S q.1 = q.2
theorem l50 (w : WS S) (pv : Option Nat) (hpv : ∀ j, pv = some j → has S j) : ∀ (R D : List SL) (i : Int32) (a : Option SL) (z1 z2 : Value), S = D ++ R → i = I D.length → nxK S a → rn 50 14 [.ref p, refH p pv, refO p a, .ref (p + 4), .int (I 6), .int i, z1, z2] [] (put h p f tk rt ps S, r) = some (.inl (some (refO p (R.foldl (nx1 (pv.map (tr S))) a))), (put h p f tk rt ps S, r)) := by
  intro R
  induction R with
  | nil =>
    intro D i a z1 z2 hS hi ka
    have hl := end_ w hS
    rw [x50_14]
    cases a with
    | none => simp only [x50_0, x50_1, x50_2, x50_3, x50_6, x50_7, x50_8, x50_9, x50_11, x50_12, x50_16, x50_18, x50_21, x50_22, x50_24, x50_25, x50_27, x50_27n, x50_28, x50_40, x50_41, x50_45, x50_47, x50_49, x50_52, x50_55, x50_57, x50_60, x50_60n, x50_61, x50_73, x50_75, x50_76, x50_79, x50_61a, x50_64, x50_66, x50_67, x50_70, x50_28a, x50_31, x50_32, x50_34, x50_37, x50_44, x50_82, x50_82n, x50_83, x50_83a, gk_some, pk_some, qk_some, bnd_v, bnd_n, kl_int, kl_ref, kl_null, kl_un, Nat.reduceAdd, if_true, if_false, hi, hl, nlt6, List.foldl_nil, refO]
    | some q => simp only [x50_0, x50_1, x50_2, x50_3, x50_6, x50_7, x50_8, x50_9, x50_11, x50_12, x50_16, x50_18, x50_21, x50_22, x50_24, x50_25, x50_27, x50_27n, x50_28, x50_40, x50_41, x50_45, x50_47, x50_49, x50_52, x50_55, x50_57, x50_60, x50_60n, x50_61, x50_73, x50_75, x50_76, x50_79, x50_61a, x50_64, x50_66, x50_67, x50_70, x50_28a, x50_31, x50_32, x50_34, x50_37, x50_44, x50_82, x50_82n, x50_83, x50_83a, gk_some, pk_some, qk_some, bnd_v, bnd_n, kl_int, kl_ref, kl_null, kl_un, Nat.reduceAdd, if_true, if_false, hi, hl, nlt6, List.foldl_nil, refO]
  | cons s R ih =>
    intro D i a z1 z2 hS hi ka
    obtain ⟨h1, h2, h3, h4, h5⟩ := mid_ w hS
    have ha := at_mid h f tk rt ps S r (p := p) hS (by rw [w.1]; decide)
    have hm := m82 h f tk rt ps S r (p := p) h1 (by rw [h2]; exact h3)
    have ks : nxK S (some s) := fun q e => by cases e; exact ⟨h1, h2⟩
    have ih1 := fun z1 z2 => ih (D ++ [s]) (I D.length + 1) (some s) z1 z2 (sub_ hS) (len_ D s) ks
    have ih2 := fun z1 z2 => ih (D ++ [s]) (I D.length + 1) a z1 z2 (sub_ hS) (len_ D s) ka
    rw [x50_14, List.foldl_cons]
    have step : ∀ (b : Bool), (match pv.map (tr S) with
        | none => true
        | some t => lvB t s.2) = b →
        rn 50 45 [.ref p, refH p pv, refO p a, .ref (p + 4), .int (I 6), .int (I D.length), .ref (p + 5 + s.1), z2] [.int (b2i b)] (put h p f tk rt ps S, r) = some (.inl (some (refO p (R.foldl (nx1 (pv.map (tr S))) (nx1 (pv.map (tr S)) a s)))), (put h p f tk rt ps S, r)) := by
      intro b hb
      by_cases e1 : s.2.1 = 1
      · have en : nx1 (pv.map (tr S)) a s = a := by unfold nx1; rw [if_neg (fun q => q.1 e1)]
        rw [en]
        simp only [x50_0, x50_1, x50_2, x50_3, x50_6, x50_7, x50_8, x50_9, x50_11, x50_12, x50_16, x50_18, x50_21, x50_22, x50_24, x50_25, x50_27, x50_27n, x50_28, x50_40, x50_41, x50_45, x50_47, x50_49, x50_52, x50_55, x50_57, x50_60, x50_60n, x50_61, x50_73, x50_75, x50_76, x50_79, x50_61a, x50_64, x50_66, x50_67, x50_70, x50_28a, x50_31, x50_32, x50_34, x50_37, x50_44, x50_82, x50_82n, x50_83, x50_83a, gk_some, pk_some, qk_some, bnd_v, bnd_n, kl_int, kl_ref, kl_null, kl_un, Nat.reduceAdd, if_true, if_false, rvL, rvT, alL, ln1, ln2, ln3, h1, hm, h2, e1, fit1, fit0, fitb, b2i_t, b2i_f, reduceIte, decide_true, decide_false, ne_eq, not_true_eq_false, Bool.false_eq_true, ih2]
      · cases b with
        | false =>
          have en : nx1 (pv.map (tr S)) a s = a := by unfold nx1; rw [if_neg (fun q => by rw [hb] at q; cases q.2.1)]
          rw [en]
          simp only [x50_0, x50_1, x50_2, x50_3, x50_6, x50_7, x50_8, x50_9, x50_11, x50_12, x50_16, x50_18, x50_21, x50_22, x50_24, x50_25, x50_27, x50_27n, x50_28, x50_40, x50_41, x50_45, x50_47, x50_49, x50_52, x50_55, x50_57, x50_60, x50_60n, x50_61, x50_73, x50_75, x50_76, x50_79, x50_61a, x50_64, x50_66, x50_67, x50_70, x50_28a, x50_31, x50_32, x50_34, x50_37, x50_44, x50_82, x50_82n, x50_83, x50_83a, gk_some, pk_some, qk_some, bnd_v, bnd_n, kl_int, kl_ref, kl_null, kl_un, Nat.reduceAdd, if_true, if_false, rvL, rvT, alL, ln1, ln2, ln3, h1, hm, h2, e1, fit1, fit0, fitb, b2i_t, b2i_f, reduceIte, decide_true, decide_false, ne_eq, not_false_eq_true, ne10, Bool.false_eq_true, ih2]
        | true =>
          cases a with
          | none =>
            have en : nx1 (pv.map (tr S)) none s = some s := by unfold nx1; rw [if_pos ⟨e1, hb, rfl⟩]
            rw [en]
            simp only [refO] at ih1 ih2 ⊢
            simp only [x50_0, x50_1, x50_2, x50_3, x50_6, x50_7, x50_8, x50_9, x50_11, x50_12, x50_16, x50_18, x50_21, x50_22, x50_24, x50_25, x50_27, x50_27n, x50_28, x50_40, x50_41, x50_45, x50_47, x50_49, x50_52, x50_55, x50_57, x50_60, x50_60n, x50_61, x50_73, x50_75, x50_76, x50_79, x50_61a, x50_64, x50_66, x50_67, x50_70, x50_28a, x50_31, x50_32, x50_34, x50_37, x50_44, x50_82, x50_82n, x50_83, x50_83a, gk_some, pk_some, qk_some, bnd_v, bnd_n, kl_int, kl_ref, kl_null, kl_un, Nat.reduceAdd, if_true, if_false, rvL, rvT, alL, ln1, ln2, ln3, h1, hm, h2, e1, fit1, fit0, fitb, b2i_t, b2i_f, reduceIte, decide_true, decide_false, ne_eq, not_false_eq_true, ne10, kl_refH, ih1]
          | some q =>
            obtain ⟨q1, q2⟩ := ka q rfl
            have h87 := m87 h f tk rt ps S r (p := p) h1 q1
            rw [h2, q2] at h87
            by_cases e2 : lvB s.2 q.2 = true
            · have en : nx1 (pv.map (tr S)) (some q) s = some s := by unfold nx1; rw [if_pos ⟨e1, hb, e2⟩]
              rw [en]
              simp only [refO] at ih1 ih2 ⊢
              simp only [x50_0, x50_1, x50_2, x50_3, x50_6, x50_7, x50_8, x50_9, x50_11, x50_12, x50_16, x50_18, x50_21, x50_22, x50_24, x50_25, x50_27, x50_27n, x50_28, x50_40, x50_41, x50_45, x50_47, x50_49, x50_52, x50_55, x50_57, x50_60, x50_60n, x50_61, x50_73, x50_75, x50_76, x50_79, x50_61a, x50_64, x50_66, x50_67, x50_70, x50_28a, x50_31, x50_32, x50_34, x50_37, x50_44, x50_82, x50_82n, x50_83, x50_83a, gk_some, pk_some, qk_some, bnd_v, bnd_n, kl_int, kl_ref, kl_null, kl_un, Nat.reduceAdd, if_true, if_false, rvL, rvT, alL, ln1, ln2, ln3, h1, hm, h2, h87, e2, e1, fit1, fit0, fitb, b2i_t, b2i_f, reduceIte, decide_true, decide_false, ne_eq, not_false_eq_true, ne10, kl_refH, ih1]
            · have en : nx1 (pv.map (tr S)) (some q) s = some q := by unfold nx1; rw [if_neg (fun z => e2 z.2.2)]
              have e3 : lvB s.2 q.2 = false := by simpa using e2
              rw [en]
              simp only [refO] at ih1 ih2 ⊢
              simp only [x50_0, x50_1, x50_2, x50_3, x50_6, x50_7, x50_8, x50_9, x50_11, x50_12, x50_16, x50_18, x50_21, x50_22, x50_24, x50_25, x50_27, x50_27n, x50_28, x50_40, x50_41, x50_45, x50_47, x50_49, x50_52, x50_55, x50_57, x50_60, x50_60n, x50_61, x50_73, x50_75, x50_76, x50_79, x50_61a, x50_64, x50_66, x50_67, x50_70, x50_28a, x50_31, x50_32, x50_34, x50_37, x50_44, x50_82, x50_82n, x50_83, x50_83a, gk_some, pk_some, qk_some, bnd_v, bnd_n, kl_int, kl_ref, kl_null, kl_un, Nat.reduceAdd, if_true, if_false, rvL, rvT, alL, ln1, ln2, ln3, h1, hm, h2, h87, e3, e1, fit1, fit0, fitb, b2i_t, b2i_f, reduceIte, decide_true, decide_false, ne_eq, not_false_eq_true, ne10, Bool.false_eq_true, ih2]
    cases pv with
    | none =>
      have st := step true rfl
      simp only [refH, fit1, fit0, fitb, b2i_t, b2i_f, reduceIte, decide_true, decide_false] at st ⊢
      simp only [x50_16, x50_18, x50_21, x50_22, x50_24, x50_25, x50_27, x50_28, x50_28a, x50_40, x50_41, x50_27n, gk_some, pk_some, qk_some, bnd_v, bnd_n, kl_int, kl_ref, kl_null, kl_un, Nat.reduceAdd, if_true, if_false, rvL, rvT, alL, ln1, ln2, ln3, hi, h4, ha, st]
    | some j =>
      have hj := hpv j rfl
      have h87 := m87 h f tk rt ps S r (p := p) hj h1
      rw [h2] at h87
      have st := step (lvB (tr S j) s.2) rfl
      simp only [refH] at st ⊢
      by_cases e : lvB (tr S j) s.2 = true
      · rw [e] at st h87
        simp only [fit1, fit0, fitb, b2i_t, b2i_f, reduceIte, decide_true, decide_false] at st
        simp only [x50_16, x50_18, x50_21, x50_22, x50_24, x50_25, x50_27, x50_28, x50_28a, x50_40, x50_41, x50_27n, x50_31, x50_32, x50_34, x50_37, gk_some, pk_some, qk_some, bnd_v, bnd_n, kl_int, kl_ref, kl_null, kl_un, Nat.reduceAdd, if_true, if_false, rvL, rvT, alL, ln1, ln2, ln3, hi, h4, ha, st, hj, h1, h87, fit1, fit0, fitb, b2i_t, b2i_f, reduceIte, decide_true, decide_false, ne10]
      · have e3 : lvB (tr S j) s.2 = false := by simpa using e
        rw [e3] at st h87
        simp only [fit1, fit0, fitb, b2i_t, b2i_f, reduceIte, decide_true, decide_false, Bool.false_eq_true] at st
        simp only [x50_16, x50_18, x50_21, x50_22, x50_24, x50_25, x50_27, x50_28, x50_28a, x50_40, x50_41, x50_27n, x50_31, x50_32, x50_34, x50_37, x50_44, gk_some, pk_some, qk_some, bnd_v, bnd_n, kl_int, kl_ref, kl_null, kl_un, Nat.reduceAdd, if_true, if_false, rvL, rvT, alL, ln1, ln2, ln3, hi, h4, ha, st, hj, h1, h87, fit1, fit0, fitb, b2i_t, b2i_f, reduceIte, decide_true, decide_false, Bool.false_eq_true]
theorem m47 (hp : 32 ≤ p) {n : Nat} (h7 : n ≤ 7) (hn : f 0 = I n) (k : brK n S) : rcal 47 [.ref p] (put h p f tk rt ps S, r) = some (.inl none, (put h p f tk rt ps ((S.map Prod.fst).foldl (br1 f tk) S), r)) := by
  have e := l47 h f tk rt ps r (p := p) hp h7 hn (S.map Prod.fst) [] S 0 un rfl rfl k
  simp only [c47, x47_0, x47_1, x47_4, x47_5, x47_6, x47_7, x47_8, x47_9, x47_11, x47_12, x47_15, x47_16, x47_17, x47_18, x47_20, x47_22, x47_25, x47_28, x47_31, x47_33, x47_36, x47_37, x47_40, x47_43, x47_44, x47_46, x47_49, x47_52, x47_55, x47_57, x47_59, x47_62, x47_63, x47_66, x47_69, x47_72, x47_75, gk_some, pk_some, qk_some, bnd_v, bnd_n, kl_int, kl_ref, kl_null, kl_un, Nat.reduceAdd, if_true, if_false, gl0, gl1, gl2, gl3, gl4, gl5, gl6, gl7, gl8, gl9, gl10, gl11, gl12, rvL, rvT, alL, ln1, ln2, ln3, k.1.1, e]
theorem m50 (w : WS S) (pv : Nat) (hj : has S pv) : rcal 50 [.ref p, .ref (p + 5 + pv)] (put h p f tk rt ps S, r) = some (.inl (some (refO p (nxS (some (tr S pv)) S))), (put h p f tk rt ps S, r)) := by
  have e := fun z1 z2 => l50 h f tk rt ps S r (p := p) w (some pv) (fun j e => by cases e; exact hj) S [] 0 none z1 z2 rfl rfl (fun _ e => by cases e)
  simp only [refH, refO] at e
  simp only [c50, x50_0, x50_1, x50_2, x50_3, x50_6, x50_7, x50_8, x50_9, x50_11, x50_12, x50_16, x50_18, x50_21, x50_22, x50_24, x50_25, x50_27, x50_27n, x50_28, x50_40, x50_41, x50_45, x50_47, x50_49, x50_52, x50_55, x50_57, x50_60, x50_60n, x50_61, x50_73, x50_75, x50_76, x50_79, x50_61a, x50_64, x50_66, x50_67, x50_70, x50_28a, x50_31, x50_32, x50_34, x50_37, x50_44, x50_82, x50_82n, x50_83, x50_83a, gk_some, pk_some, qk_some, bnd_v, bnd_n, kl_int, kl_ref, kl_null, kl_un, Nat.reduceAdd, if_true, if_false, gl0, gl1, gl2, gl3, gl4, gl5, gl6, gl7, gl8, gl9, gl10, gl11, gl12, rvL, rvT, alL, ln1, ln2, ln3, w.1, e]
  rfl
theorem m50n (w : WS S) : rcal 50 [.ref p, .null] (put h p f tk rt ps S, r) = some (.inl (some (refO p (nxS none S))), (put h p f tk rt ps S, r)) := by
  have e := fun z1 z2 => l50 h f tk rt ps S r (p := p) w none (fun j e => by cases e) S [] 0 none z1 z2 rfl rfl (fun _ e => by cases e)
  simp only [refH, refO] at e
  simp only [c50n, x50_0, x50_1, x50_2, x50_3, x50_6, x50_7, x50_8, x50_9, x50_11, x50_12, x50_16, x50_18, x50_21, x50_22, x50_24, x50_25, x50_27, x50_27n, x50_28, x50_40, x50_41, x50_45, x50_47, x50_49, x50_52, x50_55, x50_57, x50_60, x50_60n, x50_61, x50_73, x50_75, x50_76, x50_79, x50_61a, x50_64, x50_66, x50_67, x50_70, x50_28a, x50_31, x50_32, x50_34, x50_37, x50_44, x50_82, x50_82n, x50_83, x50_83a, gk_some, pk_some, qk_some, bnd_v, bnd_n, kl_int, kl_ref, kl_null, kl_un, Nat.reduceAdd, if_true, if_false, gl0, gl1, gl2, gl3, gl4, gl5, gl6, gl7, gl8, gl9, gl10, gl11, gl12, rvL, rvT, alL, ln1, ln2, ln3, w.1, e]
  rfl
theorem nat_lt2 {v : Int32} {n : Nat} (h0 : ¬ v < 0) (h1 : v < I n) (hn : n ≤ 7) : v.toNatClampNeg < n := nat_lt h0 h1 (by omega)
/-- a train that may try to leave stands where a train stands -/
def tryK (n : Nat) (t : TR) : Prop := (¬ t.2 6 + stp_ t < 0 ∧ t.2 6 + stp_ t < I n) ∧ (¬ imin (t.2 6 + stp_ t) (t.2 6) < 0 ∧ imin (t.2 6 + stp_ t) (t.2 6) < I (n - 1))
theorem m49 (hp : 32 ≤ p) (w : WS S) {n : Nat} (h7 : n ≤ 7) (h1n : 1 ≤ n) (hn : f 0 = I n) (hj : has S j) (k : tryK n (tr S j)) : rcal 49 [.ref p, .ref (p + 5 + j)] (put h p f tk rt ps S, r) = some (.inl none, (put h p f tk rt ps (try1 f tk rt S j), r)) := by
  obtain ⟨⟨k1, k2⟩, k3, k4⟩ := k
  have h84 := m84 h f tk rt ps S r (p := p) hj
  have h56 := m56 h f tk rt ps S r (p := p) (imin ((tr S j).2 6 + stp_ (tr S j)) ((tr S j).2 6))
  rw [hn, I_sub1 h1n] at h56
  have h60 := m60 h f tk rt ps S r (p := p) w hn h7 k1 k2
  have h59 := m59 h f tk rt ps S r (p := p) w (imin ((tr S j).2 6 + stp_ (tr S j)) ((tr S j).2 6))
  have hr := ra2 h f tk rt ps S r (p := p) k3 (by have := nat_lt2 k3 k4 (by omega); omega)
  have h86 := fun u v z => m86 h f tk rt ps S r hp hj u v z
  have him : ∀ x y : Int32, (if x < y then x else y) = imin x y := fun _ _ => rfl
  simp only [c49, x49_0, x49_1, x49_4, x49_5, x49_8, x49_9, x49_10, x49_11, x49_14, x49_15, x49_18, x49_19, x49_20, x49_21, x49_24, x49_27, x49_28, x49_29, x49_30, x49_33, x49_36, x49_37, x49_38, x49_41, x49_44, x49_45, x49_49, x49_51, x49_53, x49_56, x49_57, x49_58, x49_61, x49_64, x49_65, x49_66, x49_67, x49_68, x49_71, x49_72, x49_73, x49_76, x49_89, x49_61a, x49_79, x49_80, x49_81, x49_84, x49_85, x49_86, x49_48, gk_some, pk_some, qk_some, bnd_v, bnd_n, kl_int, kl_ref, kl_null, kl_un, Nat.reduceAdd, if_true, if_false, gl0, gl1, gl2, gl3, gl4, gl5, gl6, gl7, gl8, gl9, gl10, gl11, gl12, gt0, gt1, gt2, gt3, gt4, gt5, gt6, gt7, gt8, gt9, gt10, gt11, rvL, rvT, alL, ln1, ln2, ln3, hj, h84, him, h56, k3, k4, fit1, fit0, fitb, b2i_t, b2i_f, reduceIte, decide_true, decide_false, not_false_eq_true, and_self, ne10]
  by_cases e : (tr S j).2 6 + stp_ (tr S j) = (tr S j).2 3
  · cases e2 : S.find? (holP (imin ((tr S j).2 6 + stp_ (tr S j)) ((tr S j).2 6))) with
    | none =>
      have et : try1 f tk rt S j = upS S j (4, up (up (up (tr S j).2 7 (imin ((tr S j).2 6 + stp_ (tr S j)) ((tr S j).2 6))) 6 ((tr S j).2 6 + stp_ (tr S j))) 8 (rt (imin ((tr S j).2 6 + stp_ (tr S j)) ((tr S j).2 6)).toNatClampNeg)) := by
        unfold try1; rw [if_pos ⟨Or.inl e, e2⟩]
      rw [e2] at h59
      rw [et]
      simp only [if_pos e, x49_0, x49_1, x49_4, x49_5, x49_8, x49_9, x49_10, x49_11, x49_14, x49_15, x49_18, x49_19, x49_20, x49_21, x49_24, x49_27, x49_28, x49_29, x49_30, x49_33, x49_36, x49_37, x49_38, x49_41, x49_44, x49_45, x49_49, x49_51, x49_53, x49_56, x49_57, x49_58, x49_61, x49_64, x49_65, x49_66, x49_67, x49_68, x49_71, x49_72, x49_73, x49_76, x49_89, x49_61a, x49_79, x49_80, x49_81, x49_84, x49_85, x49_86, x49_48, gk_some, pk_some, qk_some, bnd_v, bnd_n, kl_int, kl_ref, kl_null, kl_un, Nat.reduceAdd, if_true, if_false, gl0, gl1, gl2, gl3, gl4, gl5, gl6, gl7, gl8, gl9, gl10, gl11, gl12, gt0, gt1, gt2, gt3, gt4, gt5, gt6, gt7, gt8, gt9, gt10, gt11, rvL, rvT, alL, ln1, ln2, ln3, hj, h59, refO, hr, h86, fit1, fit0, fitb, b2i_t, b2i_f, reduceIte, decide_true, decide_false, ne10]
    | some s =>
      have et : try1 f tk rt S j = upS S j ((tr S j).1, up (tr S j).2 10 ((tr S j).2 10 + 1)) := by
        unfold try1; rw [if_neg (fun q => by rw [e2] at q; cases q.2)]
      rw [e2] at h59
      rw [et]
      simp only [if_pos e, x49_0, x49_1, x49_4, x49_5, x49_8, x49_9, x49_10, x49_11, x49_14, x49_15, x49_18, x49_19, x49_20, x49_21, x49_24, x49_27, x49_28, x49_29, x49_30, x49_33, x49_36, x49_37, x49_38, x49_41, x49_44, x49_45, x49_49, x49_51, x49_53, x49_56, x49_57, x49_58, x49_61, x49_64, x49_65, x49_66, x49_67, x49_68, x49_71, x49_72, x49_73, x49_76, x49_89, x49_61a, x49_79, x49_80, x49_81, x49_84, x49_85, x49_86, x49_48, gk_some, pk_some, qk_some, bnd_v, bnd_n, kl_int, kl_ref, kl_null, kl_un, Nat.reduceAdd, if_true, if_false, gl0, gl1, gl2, gl3, gl4, gl5, gl6, gl7, gl8, gl9, gl10, gl11, gl12, gt0, gt1, gt2, gt3, gt4, gt5, gt6, gt7, gt8, gt9, gt10, gt11, rvL, rvT, alL, ln1, ln2, ln3, hj, h59, refO, pt10 h _ _ _ _ _ _ hp hj, fit1, fit0, fitb, b2i_t, b2i_f, reduceIte, decide_true, decide_false, ne10]
  · simp only [if_neg e, h60, x49_0, x49_1, x49_4, x49_5, x49_8, x49_9, x49_10, x49_11, x49_14, x49_15, x49_18, x49_19, x49_20, x49_21, x49_24, x49_27, x49_28, x49_29, x49_30, x49_33, x49_36, x49_37, x49_38, x49_41, x49_44, x49_45, x49_49, x49_51, x49_53, x49_56, x49_57, x49_58, x49_61, x49_64, x49_65, x49_66, x49_67, x49_68, x49_71, x49_72, x49_73, x49_76, x49_89, x49_61a, x49_79, x49_80, x49_81, x49_84, x49_85, x49_86, x49_48, gk_some, pk_some, qk_some, bnd_v, bnd_n, kl_int, kl_ref, kl_null, kl_un, Nat.reduceAdd, if_true, if_false]
    by_cases e3 : 0 < freN tk S ((tr S j).2 6 + stp_ (tr S j))
    · cases e2 : S.find? (holP (imin ((tr S j).2 6 + stp_ (tr S j)) ((tr S j).2 6))) with
      | none =>
        have et : try1 f tk rt S j = upS S j (4, up (up (up (tr S j).2 7 (imin ((tr S j).2 6 + stp_ (tr S j)) ((tr S j).2 6))) 6 ((tr S j).2 6 + stp_ (tr S j))) 8 (rt (imin ((tr S j).2 6 + stp_ (tr S j)) ((tr S j).2 6)).toNatClampNeg)) := by
          unfold try1; rw [if_pos ⟨Or.inr e3, e2⟩]
        rw [e2] at h59
        rw [et]
        simp only [e3, x49_0, x49_1, x49_4, x49_5, x49_8, x49_9, x49_10, x49_11, x49_14, x49_15, x49_18, x49_19, x49_20, x49_21, x49_24, x49_27, x49_28, x49_29, x49_30, x49_33, x49_36, x49_37, x49_38, x49_41, x49_44, x49_45, x49_49, x49_51, x49_53, x49_56, x49_57, x49_58, x49_61, x49_64, x49_65, x49_66, x49_67, x49_68, x49_71, x49_72, x49_73, x49_76, x49_89, x49_61a, x49_79, x49_80, x49_81, x49_84, x49_85, x49_86, x49_48, gk_some, pk_some, qk_some, bnd_v, bnd_n, kl_int, kl_ref, kl_null, kl_un, Nat.reduceAdd, if_true, if_false, gl0, gl1, gl2, gl3, gl4, gl5, gl6, gl7, gl8, gl9, gl10, gl11, gl12, gt0, gt1, gt2, gt3, gt4, gt5, gt6, gt7, gt8, gt9, gt10, gt11, rvL, rvT, alL, ln1, ln2, ln3, hj, h59, refO, hr, h86, fit1, fit0, fitb, b2i_t, b2i_f, reduceIte, decide_true, decide_false, ne10]
      | some s =>
        have et : try1 f tk rt S j = upS S j ((tr S j).1, up (tr S j).2 10 ((tr S j).2 10 + 1)) := by
          unfold try1; rw [if_neg (fun q => by rw [e2] at q; cases q.2)]
        rw [e2] at h59
        rw [et]
        simp only [e3, x49_0, x49_1, x49_4, x49_5, x49_8, x49_9, x49_10, x49_11, x49_14, x49_15, x49_18, x49_19, x49_20, x49_21, x49_24, x49_27, x49_28, x49_29, x49_30, x49_33, x49_36, x49_37, x49_38, x49_41, x49_44, x49_45, x49_49, x49_51, x49_53, x49_56, x49_57, x49_58, x49_61, x49_64, x49_65, x49_66, x49_67, x49_68, x49_71, x49_72, x49_73, x49_76, x49_89, x49_61a, x49_79, x49_80, x49_81, x49_84, x49_85, x49_86, x49_48, gk_some, pk_some, qk_some, bnd_v, bnd_n, kl_int, kl_ref, kl_null, kl_un, Nat.reduceAdd, if_true, if_false, gl0, gl1, gl2, gl3, gl4, gl5, gl6, gl7, gl8, gl9, gl10, gl11, gl12, gt0, gt1, gt2, gt3, gt4, gt5, gt6, gt7, gt8, gt9, gt10, gt11, rvL, rvT, alL, ln1, ln2, ln3, hj, h59, refO, pt10 h _ _ _ _ _ _ hp hj, fit1, fit0, fitb, b2i_t, b2i_f, reduceIte, decide_true, decide_false, ne10]
    · have et : try1 f tk rt S j = upS S j ((tr S j).1, up (tr S j).2 10 ((tr S j).2 10 + 1)) := by
        unfold try1; rw [if_neg (fun q => q.1.elim e e3)]
      rw [et]
      simp only [e3, x49_0, x49_1, x49_4, x49_5, x49_8, x49_9, x49_10, x49_11, x49_14, x49_15, x49_18, x49_19, x49_20, x49_21, x49_24, x49_27, x49_28, x49_29, x49_30, x49_33, x49_36, x49_37, x49_38, x49_41, x49_44, x49_45, x49_49, x49_51, x49_53, x49_56, x49_57, x49_58, x49_61, x49_64, x49_65, x49_66, x49_67, x49_68, x49_71, x49_72, x49_73, x49_76, x49_89, x49_61a, x49_79, x49_80, x49_81, x49_84, x49_85, x49_86, x49_48, gk_some, pk_some, qk_some, bnd_v, bnd_n, kl_int, kl_ref, kl_null, kl_un, Nat.reduceAdd, if_true, if_false, gl0, gl1, gl2, gl3, gl4, gl5, gl6, gl7, gl8, gl9, gl10, gl11, gl12, gt0, gt1, gt2, gt3, gt4, gt5, gt6, gt7, gt8, gt9, gt10, gt11, rvL, rvT, alL, ln1, ln2, ln3, hj, pt10 h _ _ _ _ _ _ hp hj, fit1, fit0, fitb, b2i_t, b2i_f, reduceIte, decide_true, decide_false, ne10]
def goK (f : Nat → Int32) (n : Nat) (S : List SL) (j : Nat) : Prop := WS S ∧ has S j ∧ ((tr S j).1 = 3 → tryK n (tr S j))
def goKN (f tk rt : Nat → Int32) (n : Nat) : Nat → Option SL → List SL → Prop
  | 0, _, _ => True
  | _ + 1, none, _ => True
  | c + 1, some s, S => goK f n S s.1 ∧ WS (go1 f tk rt S s.1) ∧ goKN f tk rt n c (nxS (some (tr (go1 f tk rt S s.1) s.1)) (go1 f tk rt S s.1)) (go1 f tk rt S s.1)
theorem has_try {S : List SL} {j i : Nat} (hj : has S j) : has (try1 f tk rt S i) j := by
  unfold try1
  split
  · exact (has_up _ _ _ _).mpr hj
  · exact (has_up _ _ _ _).mpr hj
theorem has_go {S : List SL} {j i : Nat} (hj : has S j) : has (go1 f tk rt S i) j := by
  unfold go1
  split
  · exact has_try f tk rt hj
  · exact hj
theorem l48 (hp : 32 ≤ p) {n : Nat} (h7 : n ≤ 7) (h1n : 1 ≤ n) (hn : f 0 = I n) : ∀ (c a : Nat) (o : Option SL) (S : List SL), a + c = 6 → goKN f tk rt n c o S → rn 48 8 [.ref p, refO p o, .int (I a)] [] (put h p f tk rt ps S, r) = some (.inl none, (put h p f tk rt ps (goN f tk rt c o S), r)) := by
  intro c
  induction c with
  | zero =>
    intro a o S ha _
    have : a = 6 := by omega
    subst this
    rw [x48_8]
    simp only [x48_0, x48_1, x48_2, x48_5, x48_6, x48_7, x48_9, x48_11, x48_14, x48_14n, x48_15, x48_63, x48_15a, x48_18, x48_19, x48_22, x48_25, x48_28, x48_29, x48_32, x48_33, x48_36, x48_39, x48_40, x48_43, x48_46, x48_47, x48_48, x48_51, x48_52, x48_53, x48_56, x48_57, x48_60, x48_56a, x48_5a, gk_some, pk_some, qk_some, bnd_v, bnd_n, kl_int, kl_ref, kl_null, kl_un, Nat.reduceAdd, if_true, if_false, show (6 : Int32) = I 6 from rfl, nlt6, goN]
  | succ c ih =>
    intro a o S ha hK
    have hlt : I a < 6 := by rw [show (6 : Int32) = I 6 from rfl, I_lt (by omega) (by omega)]; omega
    rw [x48_8]
    cases o with
    | none => simp only [x48_0, x48_1, x48_2, x48_5, x48_6, x48_7, x48_9, x48_11, x48_14, x48_14n, x48_15, x48_63, x48_15a, x48_18, x48_19, x48_22, x48_25, x48_28, x48_29, x48_32, x48_33, x48_36, x48_39, x48_40, x48_43, x48_46, x48_47, x48_48, x48_51, x48_52, x48_53, x48_56, x48_57, x48_60, x48_56a, x48_5a, gk_some, pk_some, qk_some, bnd_v, bnd_n, kl_int, kl_ref, kl_null, kl_un, Nat.reduceAdd, if_true, if_false, hlt, refO, goN]
    | some s =>
      obtain ⟨⟨w, hj, hk⟩, w2, hK2⟩ := hK
      have hj2 : has (go1 f tk rt S s.1) s.1 := has_go f tk rt hj
      have ih' := ih (a + 1) _ _ (by omega) hK2
      have h50 := m50 h f tk rt ps (go1 f tk rt S s.1) r (p := p) w2 s.1 hj2
      obtain ⟨D, R, hS⟩ := has_ex hj
      have hm : (s.1, tr S s.1) ∈ S := (congrArg (fun l => (s.1, tr S s.1) ∈ l) hS).mpr (List.mem_append_right _ List.mem_cons_self)
      have h3 := w.2.2.1 _ hm
      simp only [] at h3
      have tail : rn 48 51 [.ref p, .ref (p + 5 + s.1), .int (I a)] [] (put h p f tk rt ps (go1 f tk rt S s.1), r) = some (.inl none, (put h p f tk rt ps (goN f tk rt (c + 1) (some s) S), r)) := by
        cases en : nxS (some (tr (go1 f tk rt S s.1) s.1)) (go1 f tk rt S s.1) with
        | none =>
          rw [en] at h50 ih'
          simp only [refO] at h50 ih'
          simp only [x48_0, x48_1, x48_2, x48_5, x48_6, x48_7, x48_9, x48_11, x48_14, x48_14n, x48_15, x48_63, x48_15a, x48_18, x48_19, x48_22, x48_25, x48_28, x48_29, x48_32, x48_33, x48_36, x48_39, x48_40, x48_43, x48_46, x48_47, x48_48, x48_51, x48_52, x48_53, x48_56, x48_57, x48_60, x48_56a, x48_5a, gk_some, pk_some, qk_some, bnd_v, bnd_n, kl_int, kl_ref, kl_null, kl_un, Nat.reduceAdd, if_true, if_false, rvL, rvT, alL, ln1, ln2, ln3, h50, I_1, ih', goN, en]
        | some q =>
          rw [en] at h50 ih'
          simp only [refO] at h50 ih'
          simp only [x48_0, x48_1, x48_2, x48_5, x48_6, x48_7, x48_9, x48_11, x48_14, x48_14n, x48_15, x48_63, x48_15a, x48_18, x48_19, x48_22, x48_25, x48_28, x48_29, x48_32, x48_33, x48_36, x48_39, x48_40, x48_43, x48_46, x48_47, x48_48, x48_51, x48_52, x48_53, x48_56, x48_57, x48_60, x48_56a, x48_5a, gk_some, pk_some, qk_some, bnd_v, bnd_n, kl_int, kl_ref, kl_null, kl_un, Nat.reduceAdd, if_true, if_false, rvL, rvT, alL, ln1, ln2, ln3, h50, I_1, ih', goN, en]
      simp only [refO]
      simp only [x48_0, x48_1, x48_2, x48_5, x48_6, x48_7, x48_9, x48_11, x48_14, x48_14n, x48_15, x48_63, x48_15a, x48_18, x48_19, x48_22, x48_25, x48_28, x48_29, x48_32, x48_33, x48_36, x48_39, x48_40, x48_43, x48_46, x48_47, x48_48, x48_52, x48_53, x48_56, x48_57, x48_60, x48_56a, x48_5a, gk_some, pk_some, qk_some, bnd_v, bnd_n, kl_int, kl_ref, kl_null, kl_un, Nat.reduceAdd, if_true, if_false, gl0, gl1, gl2, gl3, gl4, gl5, gl6, gl7, gl8, gl9, gl10, gl11, gl12, gt0, gt1, gt2, gt3, gt4, gt5, gt6, gt7, gt8, gt9, gt10, gt11, rvL, rvT, alL, ln1, ln2, ln3, hlt, hj, req_pl h3 (by decide : 1 ≤ 3 ∧ 3 ≤ 4)]
      by_cases e1 : (tr S s.1).1 = 3
      · by_cases e2 : (tr S s.1).2 11 = f 7
        · have eg : go1 f tk rt S s.1 = S := by unfold go1; rw [if_neg (fun q => q.2.1 e2)]
          rw [eg] at tail
          simp only [e1, e2, fit1, fit0, fitb, b2i_t, b2i_f, reduceIte, decide_true, decide_false, tail]
        · by_cases e3 : (tr S s.1).2 9 = 0
          · have eg : go1 f tk rt S s.1 = try1 f tk rt S s.1 := by unfold go1; rw [if_pos ⟨e1, e2, e3⟩]
            rw [eg] at tail
            have h49 := m49 h f tk rt ps S r hp w h7 h1n hn hj (hk e1)
            simp only [e1, e2, e3, fit1, fit0, fitb, b2i_t, b2i_f, reduceIte, decide_true, decide_false, h49, gk_some, pk_some, qk_some, bnd_v, bnd_n, kl_int, kl_ref, kl_null, kl_un, Nat.reduceAdd, if_true, if_false, tail]
          · have eg : go1 f tk rt S s.1 = S := by unfold go1; rw [if_neg (fun q => e3 q.2.2)]
            rw [eg] at tail
            simp only [e1, e2, e3, fit1, fit0, fitb, b2i_t, b2i_f, reduceIte, decide_true, decide_false, tail]
      · have eg : go1 f tk rt S s.1 = S := by unfold go1; rw [if_neg (fun q => e1 q.1)]
        rw [eg] at tail
        simp only [e1, fit1, fit0, fitb, b2i_t, b2i_f, reduceIte, decide_true, decide_false, Bool.false_eq_true, tail]
theorem m48 (hp : 32 ≤ p) (w : WS S) {n : Nat} (h7 : n ≤ 7) (h1n : 1 ≤ n) (hn : f 0 = I n) (hK : goKN f tk rt n 6 (nxS none S) S) : rcal 48 [.ref p] (put h p f tk rt ps S, r) = some (.inl none, (put h p f tk rt ps (goN f tk rt 6 (nxS none S) S), r)) := by
  have h50 := m50n h f tk rt ps S r (p := p) w
  cases en : nxS none S with
  | none =>
    have e := l48 h f tk rt ps r hp h7 h1n hn 6 0 none S (by omega) (by rw [en] at hK; exact hK)
    rw [show I 0 = 0 from rfl] at e
    rw [en] at h50
    simp only [refO] at h50 e
    simp only [c48, x48_0, x48_1, x48_2, x48_5, x48_6, x48_7, x48_9, x48_11, x48_14, x48_14n, x48_15, x48_63, x48_15a, x48_18, x48_19, x48_22, x48_25, x48_28, x48_29, x48_32, x48_33, x48_36, x48_39, x48_40, x48_43, x48_46, x48_47, x48_48, x48_51, x48_52, x48_53, x48_56, x48_57, x48_60, x48_56a, x48_5a, gk_some, pk_some, qk_some, bnd_v, bnd_n, kl_int, kl_ref, kl_null, kl_un, Nat.reduceAdd, if_true, if_false, rvL, rvT, alL, ln1, ln2, ln3, h50, e]
  | some q =>
    have e := l48 h f tk rt ps r hp h7 h1n hn 6 0 (some q) S (by omega) (by rw [en] at hK; exact hK)
    rw [show I 0 = 0 from rfl] at e
    rw [en] at h50
    simp only [refO] at h50 e
    simp only [c48, x48_0, x48_1, x48_2, x48_5, x48_6, x48_7, x48_9, x48_11, x48_14, x48_14n, x48_15, x48_63, x48_15a, x48_18, x48_19, x48_22, x48_25, x48_28, x48_29, x48_32, x48_33, x48_36, x48_39, x48_40, x48_43, x48_46, x48_47, x48_48, x48_51, x48_52, x48_53, x48_56, x48_57, x48_60, x48_56a, x48_5a, gk_some, pk_some, qk_some, bnd_v, bnd_n, kl_int, kl_ref, kl_null, kl_un, Nat.reduceAdd, if_true, if_false, rvL, rvT, alL, ln1, ln2, ln3, h50, e]
end MIN
