/-! the class's constructor -/
section HISTC
theorem lO_fst (p : Nat) (f : Nat → Int32) : (some (lO p f)).map Prod.fst = some 1 := rfl
theorem aast_l {h : PH} {a v : Nat} {vs : List Value} (e : h a = some (106, vs)) (e2 : (h v).map Prod.fst = some 1) (hv : 32 ≤ v) (ha : 32 ≤ a) {i : Nat} (hi : i < vs.length) (h100 : i < 100) (r : Nat × Nat × Nat) : aast (h, r) a (I i) v = some (pu h a (106, vs.set i (.ref v)), r) := by
  unfold aast
  simp only [e]
  rw [if_pos ⟨Or.inr ⟨trivial, e2⟩, hv, ha, fun q => q.elim (I_nn (by omega)) (fun q => by rw [I_nat (by omega)] at q; omega)⟩, I_nat (by omega)]
  rfl
/-- the history's line numbers, i of them set -/
def hA (i : Nat) : List Value := (List.range 9).map fun k => if k < i then .ref (hQ k) else .null
theorem hA_set (i : Nat) : (hA i).set i (.ref (hQ i)) = hA (i + 1) := by
  unfold hA
  apply List.ext_getElem?
  intro k
  by_cases e : k = i
  · subst e
    by_cases h9 : k < 9
    · rw [List.getElem?_set_self (by simpa using h9)]
      simp [h9]
    · rw [List.getElem?_eq_none (by simp; omega), List.getElem?_eq_none (by simp; omega)]
  · rw [List.getElem?_set_ne (fun q => e q.symm), List.getElem?_map, List.getElem?_map]
    cases hk : (List.range 9)[k]? with
    | none => rfl
    | some k' =>
      have : k' = k := by
        have z := List.getElem?_eq_some_iff.mp hk
        obtain ⟨z1, z2⟩ := z
        rw [List.getElem_range] at z2; exact z2.symm
      subst this
      simp only [Option.map_some, Option.some.injEq]
      by_cases c : k' < i
      · rw [if_pos c, if_pos (by omega)]
      · rw [if_neg c, if_neg (by omega)]
theorem hA_9 : (106, hA 9) = hR := by decide
theorem l29 : ∀ (f i : Nat), i + f = 9 → ∀ (h : PH) (c s : Nat), h 66 = some (3, [.ref 67, .int 0, .int 0]) → h 67 = some (106, hA i) → ∃ h', rn 29 15 [.ref 66, .int (I i)] [] (h, 68 + 11 * i, c, s) = some (.inl none, (h', 167, c + 11 * f, s + 111 * f)) ∧ h' 66 = some (3, [.ref 67, .int 0, .int 0]) ∧ h' 67 = some hR ∧ (∀ k, i ≤ k → k < 9 → LAt h' (hQ k) L0) ∧ ∀ b, b < 67 ∨ (68 ≤ b ∧ b < 68 + 11 * i) → h' b = h b := by
  intro f
  induction f with
  | zero =>
    intro i hi h c s h66 h67
    have e9 : i = 9 := by omega
    subst e9
    have lt : (8 : Int32) < I 9 := by decide
    refine ⟨h, ?_, h66, by rw [h67, hA_9], fun k k1 k2 => absurd k2 (by omega), fun _ _ => rfl⟩
    simp only [x29_15, x29_16, x29_18, x29_40, lt, gk_some, pk_some, qk_some, bnd_v, bnd_n, kl_int, kl_ref, kl_null, kl_un, Nat.reduceAdd, if_true, if_false] <;> rfl
  | succ f ih =>
    intro i hi h c s h66 h67
    have lt : ¬ (8 : Int32) < I i := fun q => by
      rw [show (8 : Int32) = I 8 from rfl, I_lt (by decide) (by omega)] at q; omega
    have g0 := gf_of h66 (68 + 11 * i, c, s) 0
    have n0 : hsn (h, 68 + 11 * i, c, s) (1, dF 1) 13 = (pu h (68 + 11 * i) (1, dF 1), 68 + 11 * i + 1, c + 1, s + 13) := rfl
    obtain ⟨h2, e34, l2, fr2⟩ := m34 (pu h (68 + 11 * i) (1, dF 1)) (p := 68 + 11 * i) (c + 1) (s + 13) (by omega) (by simp [pu])
    have ox : ∀ b, b ≠ 68 + 11 * i → pu h (68 + 11 * i) (1, dF 1) b = h b := fun b hb => by simp [pu, hb]
    have k66 : h2 66 = some (3, [.ref 67, .int 0, .int 0]) := by rw [fr2 66 (Or.inl (by omega)), ox 66 (by omega)]; exact h66
    have k67 : h2 67 = some (106, hA i) := by rw [fr2 67 (Or.inl (by omega)), ox 67 (by omega)]; exact h67
    have k1 : (h2 (68 + 11 * i)).map Prod.fst = some 1 := by
      rw [← l2]
      show (put h2 (68 + 11 * i) _ _ _ _ _ (68 + 11 * i)).map Prod.fst = some 1
      rw [put_0]; rfl
    have w := aast_l k67 k1 (by omega) (by decide) (i := i) (by unfold hA; simp; omega) (by omega) (68 + 11 * i + 11, c + 1 + 10, s + 13 + 98)
    rw [show (.ref (68 + 11 * i) : Value) = .ref (hQ i) from rfl, hA_set] at w
    have oy : ∀ b, b ≠ 67 → pu h2 67 (106, hA (i + 1)) b = h2 b := fun b hb => by simp [pu, hb]
    have j66 : pu h2 67 (106, hA (i + 1)) 66 = some (3, [.ref 67, .int 0, .int 0]) := by rw [oy 66 (by decide)]; exact k66
    have j67 : pu h2 67 (106, hA (i + 1)) 67 = some (106, hA (i + 1)) := by simp [pu]
    have l3 : LAt (pu h2 67 (106, hA (i + 1))) (hQ i) L0 := LAt_frame (h := h2) l2 WS_0 (fun b b1 b2 => oy b (by unfold hQ at b1; omega))
    generalize pu h2 67 (106, hA (i + 1)) = h3 at *
    obtain ⟨h', e1, e2, e3, e4, e5⟩ := ih (i + 1) (by omega) h3 (c + 1 + 10) (s + 13 + 98) j66 j67
    refine ⟨h', ?_, e2, e3, fun k k1 k2 => ?_, fun b hb => ?_⟩
    · have i1 : I i + 1 = I (i + 1) := I_add i 1
      rw [x29_15]
      simp only [x29_16, x29_18, x29_21, x29_22, x29_25, x29_26, x29_29, x29_30, x29_33, x29_34, x29_37, gk_some, pk_some, qk_some, bnd_v, bnd_n, kl_int, kl_ref, kl_null, kl_un, Nat.reduceAdd, if_true, if_false, lt, g0, List.getElem?_cons_zero, n0, e34, w, i1]
      rw [show 68 + 11 * i + 11 = 68 + 11 * (i + 1) by omega, e1]
      rw [show c + 1 + 10 + 11 * f = c + 11 * (f + 1) by omega, show s + 13 + 98 + 111 * f = s + 111 * (f + 1) by omega]
    · by_cases ek : k = i
      · subst ek
        exact LAt_frame l3 WS_0 (fun b b1 b2 => e5 b (by unfold hQ at b1 b2; omega))
      · exact e4 k (by omega) k2
    · rw [e5 b (by omega), oy b (by omega), fr2 b (by omega), ox b (by omega)]
theorem m29 (h : PH) (c s : Nat) (e : h 66 = some (3, dF 3)) : ∃ h', rcal 29 [.ref 66] (h, 67, c, s) = some (.inl none, (h', 167, c + 100, s + 1008)) ∧ h' 66 = some (hO 0 0) ∧ h' 67 = some hR ∧ (∀ k, k < 9 → LAt h' (hQ k) L0) ∧ ∀ b, b < 66 → h' b = h b := by
  have n0 : hsn (h, 67, c, s) (106, List.replicate 9 .null) 9 = (pu h 67 (106, List.replicate 9 .null), 68, c + 1, s + 9) := rfl
  have w := pf_of (h := pu h 67 (106, List.replicate 9 .null)) (k := 0) (v := .ref 67) (show pu h 67 (106, List.replicate 9 .null) 66 = some (3, dF 3) by simpa [pu] using e) (68, c + 1, s + 9) (by decide) (by decide) rfl
  have j67 : pu (pu h 67 (106, List.replicate 9 .null)) 66 (3, (dF 3).set 0 (.ref 67)) 67 = some (106, hA 0) := by simp [pu, hA]; decide
  have j66 : pu (pu h 67 (106, List.replicate 9 .null)) 66 (3, (dF 3).set 0 (.ref 67)) 66 = some (3, [.ref 67, .int 0, .int 0]) := by simp [pu]; rfl
  have ox : ∀ b, b < 66 → pu (pu h 67 (106, List.replicate 9 .null)) 66 (3, (dF 3).set 0 (.ref 67)) b = h b := fun b hb => by
    have b1 : b ≠ 66 := by omega
    have b2 : b ≠ 67 := by omega
    simp [pu, b1, b2]
  generalize pu (pu h 67 (106, List.replicate 9 .null)) 66 (3, (dF 3).set 0 (.ref 67)) = h2 at *
  obtain ⟨h', e1, e2, e3, e4, e5⟩ := l29 9 0 (by omega) h2 (c + 1) (s + 9) j66 j67
  refine ⟨h', ?_, e2, e3, fun k hk => e4 k (by omega) hk, fun b hb => by rw [e5 b (by omega), ox b hb]⟩
  rw [show I 0 = 0 from rfl] at e1
  simp only [c29, x29_0, x29_1, x29_4, x29_5, x29_7, x29_10, x29_13, x29_14, gk_some, pk_some, qk_some, bnd_v, bnd_n, kl_int, kl_ref, kl_null, kl_un, Nat.reduceAdd, if_true, if_false, nv9, tn9, n0, w, -List.reduceReplicate]
  exact e1
end HISTC
section PROGC
theorem m68 (h : PH) (c s : Nat) (e : h 167 = some (4, dF 4)) : ∃ h', rcal 68 [.ref 167] (h, 168, c, s) = some (.inl none, (h', 170, c + 2, s + 63)) ∧ PAt h' (fun _ => 0) 11 0 0 (0, (fun _ => 0), 0) ∧ ∀ b, b < 167 ∨ 170 ≤ b → h' b = h b := by
  have s0 := sg_self (p := 167) e
  have n0 : hsn (sg h 167 [(4, dF 4)], 168, c, s) (101, List.replicate 60 (.int 0)) 60 = (sg h 167 [(4, dF 4), (101, List.replicate 60 (.int 0))], 169, c + 1, s + 60) := sg_hsn rfl
  have w0 : pfd (sg h 167 [(4, dF 4), (101, List.replicate 60 (.int 0))], 169, c + 1, s + 60) true 4 0 167 (.ref 168) = some (sg h 167 [(4, [.ref 168, .int 0, .int 0, .int 0, .null, .null, .int 0]), (101, List.replicate 60 (.int 0))], 169, c + 1, s + 60) := sg_pfd (j := 0) (ci := 4) (fs := dF 4) rfl (by decide) (by decide) rfl _
  have w4 : pfd (sg h 167 [(4, [.ref 168, .int 0, .int 0, .int 0, .null, .null, .int 0]), (101, List.replicate 60 (.int 0))], 169, c + 1, s + 60) true 4 4 167 (.ref 11) = some (sg h 167 [(4, [.ref 168, .int 0, .int 0, .int 0, .ref 11, .null, .int 0]), (101, List.replicate 60 (.int 0))], 169, c + 1, s + 60) := sg_pfd (j := 0) (ci := 4) (fs := [.ref 168, .int 0, .int 0, .int 0, .null, .null, .int 0]) rfl (by decide) (by decide) rfl _
  have n1 : hsn (sg h 167 [(4, [.ref 168, .int 0, .int 0, .int 0, .ref 11, .null, .int 0]), (101, List.replicate 60 (.int 0))], 169, c + 1, s + 60) (100, List.replicate 3 (.int 0)) 3 = (sg h 167 [(4, [.ref 168, .int 0, .int 0, .int 0, .ref 11, .null, .int 0]), (101, List.replicate 60 (.int 0)), (100, List.replicate 3 (.int 0))], 170, c + 2, s + 63) := sg_hsn rfl
  have w5 : pfd (sg h 167 [(4, [.ref 168, .int 0, .int 0, .int 0, .ref 11, .null, .int 0]), (101, List.replicate 60 (.int 0)), (100, List.replicate 3 (.int 0))], 170, c + 2, s + 63) true 4 5 167 (.ref 169) = some (sg h 167 [(4, [.ref 168, .int 0, .int 0, .int 0, .ref 11, .ref 169, .int 0]), (101, List.replicate 60 (.int 0)), (100, List.replicate 3 (.int 0))], 170, c + 2, s + 63) := sg_pfd (j := 0) (ci := 4) (fs := [.ref 168, .int 0, .int 0, .int 0, .ref 11, .null, .int 0]) rfl (by decide) (by decide) rfl _
  refine ⟨sg h 167 [(4, [.ref 168, .int 0, .int 0, .int 0, .ref 11, .ref 169, .int 0]), (101, List.replicate 60 (.int 0)), (100, List.replicate 3 (.int 0))], ?_, PAt_of (sg_at (j := 0) rfl) (sg_at (j := 1) rfl) (sg_at (j := 2) rfl), fun b hb => sg_out hb⟩
  have z : rcal 68 [.ref 167] (sg h 167 [(4, dF 4)], 168, c, s) = some (.inl none, (sg h 167 [(4, [.ref 168, .int 0, .int 0, .int 0, .ref 11, .ref 169, .int 0]), (101, List.replicate 60 (.int 0)), (100, List.replicate 3 (.int 0))], 170, c + 2, s + 63)) := by
    simp only [c68, x68_0, x68_1, x68_4, x68_5, x68_7, x68_9, x68_12, x68_13, x68_16, x68_19, x68_20, x68_21, x68_23, x68_26, gk_some, pk_some, qk_some, bnd_v, bnd_n, kl_int, kl_ref, kl_null, kl_un, Nat.reduceAdd, if_true, if_false, nv60, tn60, nv3, tn3, n0, w0, w4, n1, w5, -List.reduceReplicate]
  rw [s0] at z
  exact z
theorem m18 (h : PH) (c s : Nat) (e : h 170 = some (6, dF 6)) : ∃ h', rcal 18 [.ref 170] (h, 171, c, s) = some (.inl none, (h', 172, c + 1, s + 16)) ∧ sput h' 0 0 (fun _ => 0) 0 = h' ∧ ∀ b, b < 170 ∨ 172 ≤ b → h' b = h b := by
  have s0 := sg_self (p := 170) e
  have n0 : hsn (sg h 170 [(6, dF 6)], 171, c, s) (102, List.replicate 16 (.int 0)) 16 = (sg h 170 [(6, dF 6), (102, List.replicate 16 (.int 0))], 172, c + 1, s + 16) := sg_hsn rfl
  have w0 : pfd (sg h 170 [(6, dF 6), (102, List.replicate 16 (.int 0))], 172, c + 1, s + 16) true 6 0 170 (.ref 171) = some (sg h 170 [(6, [.ref 171, .int 0, .int 0, .int 0]), (102, List.replicate 16 (.int 0))], 172, c + 1, s + 16) := sg_pfd (j := 0) (ci := 6) (fs := dF 6) rfl (by decide) (by decide) rfl _
  have w1 : pfd (sg h 170 [(6, [.ref 171, .int 0, .int 0, .int 0]), (102, List.replicate 16 (.int 0))], 172, c + 1, s + 16) true 6 1 170 (.int 0) = some (sg h 170 [(6, [.ref 171, .int 0, .int 0, .int 0]), (102, List.replicate 16 (.int 0))], 172, c + 1, s + 16) := sg_pfd (j := 0) (ci := 6) (fs := [.ref 171, .int 0, .int 0, .int 0]) rfl (by decide) (by decide) rfl _
  refine ⟨sg h 170 [(6, [.ref 171, .int 0, .int 0, .int 0]), (102, List.replicate 16 (.int 0))], ?_, ?_, fun b hb => sg_out hb⟩
  · have o1 : ¬ (1 : Int32) = 0 := by decide
    have z : rcal 18 [.ref 170] (sg h 170 [(6, dF 6)], 171, c, s) = some (.inl none, (sg h 170 [(6, [.ref 171, .int 0, .int 0, .int 0]), (102, List.replicate 16 (.int 0))], 172, c + 1, s + 16)) := by
      simp only [c18, x18_0, x18_1, x18_3, x18_6, c0, x0_0, x0_1, x0_4, x0_7, x0_10, x0_11, x0_12, x0_14, x0_17, x0_18, x0_19, x0_22, x0_38, gk_some, pk_some, qk_some, bnd_v, bnd_n, kl_int, kl_ref, kl_null, kl_un, Nat.reduceAdd, if_true, if_false, o1, nv16, tn16, n0, w0, w1, -List.reduceReplicate]
    rw [s0] at z
    exact z
  · funext b
    by_cases e1 : b = 170
    · subst e1
      rw [sput_0]
      exact (sg_at (j := 0) rfl).symm
    · by_cases e2 : b = 171
      · subst e2
        exact (sput_1 ..).trans (sg_at (j := 1) rfl).symm
      · exact sput_o _ _ _ _ _ e1 e2
end PROGC
section CLASSC
theorem m90 (h : PH) (c s : Nat) (ck : CK h) (e : h 32 = some (0, dF 0)) : ∃ h', rcal 90 [.ref 32] (h, 33, c, s) = some (.inl none, (h', 172, c + 139, s + 1434)) ∧ AK h' L0 L0 L0 (fun _ => L0) 0 0 0 (-1) (-1) ∧ PAt h' (fun _ => 0) 11 0 0 (0, (fun _ => 0), 0) ∧ sput h' 0 0 (fun _ => 0) 0 = h' ∧ ∀ b, b < 32 → h' b = h b := by
  have pe : ∀ (h : PH) (a : Nat) (o : PO), pu h a o a = some o := fun h a o => by simp [pu]
  have po : ∀ (h : PH) (a : Nat) (o : PO) (b : Nat), b ≠ a → pu h a o b = h b := fun h a o b hb => by simp [pu, hb]
  have n1 : hsn (h, 33, c, s) (1, dF 1) 13 = (pu h 33 (1, dF 1), 34, c + 1, s + 13) := rfl
  obtain ⟨h1, e1, l1, f1⟩ := m34 (pu h 33 (1, dF 1)) (p := 33) (c + 1) (s + 13) (by decide) (pe _ _ _)
  have k1 : h1 32 = some (0, dF 0) := by rw [f1 32 (by omega), po _ _ _ _ (by decide)]; exact e
  have w1 := pf_of (k := 0) (v := .ref 33) k1 (44, c + 11, s + 111) (by decide) (by decide) rfl
  have n2 : hsn (pu h1 32 (0, (dF 0).set 0 (.ref 33)), 44, c + 11, s + 111) (1, dF 1) 13 = (pu (pu h1 32 (0, (dF 0).set 0 (.ref 33))) 44 (1, dF 1), 45, c + 12, s + 124) := rfl
  obtain ⟨h2, e2, l2, f2⟩ := m34 (pu (pu h1 32 (0, (dF 0).set 0 (.ref 33))) 44 (1, dF 1)) (p := 44) (c + 12) (s + 124) (by decide) (pe _ _ _)
  have k2 : h2 32 = some (0, [.ref 33, .null, .null, .null, .null, .null, .int 0, .int 0, .int 0]) := by rw [f2 32 (by omega), po _ _ _ _ (by decide), pe]; rfl
  have w2 := pf_of (k := 1) (v := .ref 44) k2 (55, c + 22, s + 222) (by decide) (by decide) rfl
  simp only [List.set_cons_succ, List.set_cons_zero] at w2
  have n3 : hsn (pu h2 32 (0, [.ref 33, .ref 44, .null, .null, .null, .null, .int 0, .int 0, .int 0]), 55, c + 22, s + 222) (1, dF 1) 13 = (pu (pu h2 32 (0, [.ref 33, .ref 44, .null, .null, .null, .null, .int 0, .int 0, .int 0])) 55 (1, dF 1), 56, c + 23, s + 235) := rfl
  obtain ⟨h3, e3, l3, f3⟩ := m34 (pu (pu h2 32 (0, [.ref 33, .ref 44, .null, .null, .null, .null, .int 0, .int 0, .int 0])) 55 (1, dF 1)) (p := 55) (c + 23) (s + 235) (by decide) (pe _ _ _)
  have k3 : h3 32 = some (0, [.ref 33, .ref 44, .null, .null, .null, .null, .int 0, .int 0, .int 0]) := by rw [f3 32 (by omega), po _ _ _ _ (by decide), pe]
  have w3 := pf_of (k := 2) (v := .ref 55) k3 (66, c + 33, s + 333) (by decide) (by decide) rfl
  simp only [List.set_cons_succ, List.set_cons_zero] at w3
  have n4 : hsn (pu h3 32 (0, [.ref 33, .ref 44, .ref 55, .null, .null, .null, .int 0, .int 0, .int 0]), 66, c + 33, s + 333) (3, dF 3) 3 = (pu (pu h3 32 (0, [.ref 33, .ref 44, .ref 55, .null, .null, .null, .int 0, .int 0, .int 0])) 66 (3, dF 3), 67, c + 34, s + 336) := rfl
  obtain ⟨h4, e4, a66, a67, l4, f4⟩ := m29 (pu (pu h3 32 (0, [.ref 33, .ref 44, .ref 55, .null, .null, .null, .int 0, .int 0, .int 0])) 66 (3, dF 3)) (c + 34) (s + 336) (pe _ _ _)
  have k4 : h4 32 = some (0, [.ref 33, .ref 44, .ref 55, .null, .null, .null, .int 0, .int 0, .int 0]) := by rw [f4 32 (by omega), po _ _ _ _ (by decide), pe]
  have w4 := pf_of (k := 3) (v := .ref 66) k4 (167, c + 134, s + 1344) (by decide) (by decide) rfl
  simp only [List.set_cons_succ, List.set_cons_zero] at w4
  have n5 : hsn (pu h4 32 (0, [.ref 33, .ref 44, .ref 55, .ref 66, .null, .null, .int 0, .int 0, .int 0]), 167, c + 134, s + 1344) (4, dF 4) 7 = (pu (pu h4 32 (0, [.ref 33, .ref 44, .ref 55, .ref 66, .null, .null, .int 0, .int 0, .int 0])) 167 (4, dF 4), 168, c + 135, s + 1351) := rfl
  obtain ⟨h5, e5, p5, f5⟩ := m68 (pu (pu h4 32 (0, [.ref 33, .ref 44, .ref 55, .ref 66, .null, .null, .int 0, .int 0, .int 0])) 167 (4, dF 4)) (c + 135) (s + 1351) (pe _ _ _)
  have k5 : h5 32 = some (0, [.ref 33, .ref 44, .ref 55, .ref 66, .null, .null, .int 0, .int 0, .int 0]) := by rw [f5 32 (by omega), po _ _ _ _ (by decide), pe]
  have w5 := pf_of (k := 4) (v := .ref 167) k5 (170, c + 137, s + 1414) (by decide) (by decide) rfl
  simp only [List.set_cons_succ, List.set_cons_zero] at w5
  have n6 : hsn (pu h5 32 (0, [.ref 33, .ref 44, .ref 55, .ref 66, .ref 167, .null, .int 0, .int 0, .int 0]), 170, c + 137, s + 1414) (6, dF 6) 4 = (pu (pu h5 32 (0, [.ref 33, .ref 44, .ref 55, .ref 66, .ref 167, .null, .int 0, .int 0, .int 0])) 170 (6, dF 6), 171, c + 138, s + 1418) := rfl
  obtain ⟨h6, e6, s6, f6⟩ := m18 (pu (pu h5 32 (0, [.ref 33, .ref 44, .ref 55, .ref 66, .ref 167, .null, .int 0, .int 0, .int 0])) 170 (6, dF 6)) (c + 138) (s + 1418) (pe _ _ _)
  have k6 : h6 32 = some (0, [.ref 33, .ref 44, .ref 55, .ref 66, .ref 167, .null, .int 0, .int 0, .int 0]) := by rw [f6 32 (by omega), po _ _ _ _ (by decide), pe]
  have w6 := pf_of (k := 5) (v := .ref 170) k6 (172, c + 139, s + 1434) (by decide) (by decide) rfl
  simp only [List.set_cons_succ, List.set_cons_zero] at w6
  have w7 := pf_of (k := 7) (v := .int (-1)) (pe h6 32 (0, [.ref 33, .ref 44, .ref 55, .ref 66, .ref 167, .ref 170, .int 0, .int 0, .int 0])) (172, c + 139, s + 1434) (by decide) (by decide) rfl
  simp only [List.set_cons_succ, List.set_cons_zero] at w7
  have w8 := pf_of (k := 8) (v := .int (-1)) (pe (pu h6 32 (0, [.ref 33, .ref 44, .ref 55, .ref 66, .ref 167, .ref 170, .int 0, .int 0, .int 0])) 32 (0, [.ref 33, .ref 44, .ref 55, .ref 66, .ref 167, .ref 170, .int 0, .int (-1), .int 0])) (172, c + 139, s + 1434) (by decide) (by decide) rfl
  simp only [List.set_cons_succ, List.set_cons_zero] at w8
  have g6 : ∀ b, b ≠ 32 → b < 170 → pu (pu (pu h6 32 (0, [.ref 33, .ref 44, .ref 55, .ref 66, .ref 167, .ref 170, .int 0, .int 0, .int 0])) 32 (0, [.ref 33, .ref 44, .ref 55, .ref 66, .ref 167, .ref 170, .int 0, .int (-1), .int 0])) 32 (0, [.ref 33, .ref 44, .ref 55, .ref 66, .ref 167, .ref 170, .int 0, .int (-1), .int (-1)]) b = h5 b := fun b hb h170 => by
    rw [po _ _ _ _ hb, po _ _ _ _ hb, po _ _ _ _ hb, f6 b (by omega), po _ _ _ _ (by omega), po _ _ _ _ hb]
  have g6' : ∀ b, b ≠ 32 → pu (pu (pu h6 32 (0, [.ref 33, .ref 44, .ref 55, .ref 66, .ref 167, .ref 170, .int 0, .int 0, .int 0])) 32 (0, [.ref 33, .ref 44, .ref 55, .ref 66, .ref 167, .ref 170, .int 0, .int (-1), .int 0])) 32 (0, [.ref 33, .ref 44, .ref 55, .ref 66, .ref 167, .ref 170, .int 0, .int (-1), .int (-1)]) b = h6 b := fun b hb => by
    rw [po _ _ _ _ hb, po _ _ _ _ hb, po _ _ _ _ hb]
  have g5 : ∀ b, b ≠ 32 → b < 167 → h5 b = h4 b := fun b hb hb2 => by rw [f5 b (by omega), po _ _ _ _ (by omega), po _ _ _ _ hb]
  have g4 : ∀ b, b ≠ 32 → b < 66 → h4 b = h3 b := fun b hb hb2 => by rw [f4 b (by omega), po _ _ _ _ (by omega), po _ _ _ _ hb]
  have g3 : ∀ b, b ≠ 32 → b < 55 → h3 b = h2 b := fun b hb hb2 => by rw [f3 b (by omega), po _ _ _ _ (by omega), po _ _ _ _ hb]
  have g2 : ∀ b, b ≠ 32 → b < 44 → h2 b = h1 b := fun b hb hb2 => by rw [f2 b (by omega), po _ _ _ _ (by omega), po _ _ _ _ hb]
  have g1 : ∀ b, b < 32 → h1 b = h b := fun b hb => by rw [f1 b (by omega), po _ _ _ _ (by omega)]
  have k32 := pe (pu (pu h6 32 (0, [.ref 33, .ref 44, .ref 55, .ref 66, .ref 167, .ref 170, .int 0, .int 0, .int 0])) 32 (0, [.ref 33, .ref 44, .ref 55, .ref 66, .ref 167, .ref 170, .int 0, .int (-1), .int 0])) 32 (0, [.ref 33, .ref 44, .ref 55, .ref 66, .ref 167, .ref 170, .int 0, .int (-1), .int (-1)])
  have hrun : rcal 90 [.ref 32] (h, 33, c, s) = some (.inl none, (pu (pu (pu h6 32 (0, [.ref 33, .ref 44, .ref 55, .ref 66, .ref 167, .ref 170, .int 0, .int 0, .int 0])) 32 (0, [.ref 33, .ref 44, .ref 55, .ref 66, .ref 167, .ref 170, .int 0, .int (-1), .int 0])) 32 (0, [.ref 33, .ref 44, .ref 55, .ref 66, .ref 167, .ref 170, .int 0, .int (-1), .int (-1)]), 172, c + 139, s + 1434)) := by
    have w1' : pfd (h1, 44, c + 11, s + 111) true 0 0 32 (.ref 33) = some (pu h1 32 (0, (dF 0).set 0 (.ref 33)), 44, c + 11, s + 111) := w1
    simp only [Nat.add_assoc, Nat.reduceAdd] at e1 e2 e3 e4 e5 e6
    simp only [c90, x90_0, x90_1, x90_4, x90_5, x90_8, x90_9, x90_12, x90_15, x90_16, x90_19, x90_20, x90_23, x90_26, x90_27, x90_30, x90_31, x90_34, x90_37, x90_38, x90_41, x90_42, x90_45, x90_48, x90_49, x90_52, x90_53, x90_56, x90_59, x90_60, x90_63, x90_64, x90_67, x90_70, x90_71, x90_72, x90_75, x90_76, x90_77, x90_80, gk_some, pk_some, qk_some, bnd_v, bnd_n, kl_int, kl_ref, kl_null, kl_un, Nat.reduceAdd, if_true, if_false, n1, e1, w1', n2, e2, w2, n3, e3, w3, n4, e4, w4, n5, e5, w5, n6, e6, w6, w7, w8]
  generalize pu (pu (pu h6 32 (0, [.ref 33, .ref 44, .ref 55, .ref 66, .ref 167, .ref 170, .int 0, .int 0, .int 0])) 32 (0, [.ref 33, .ref 44, .ref 55, .ref 66, .ref 167, .ref 170, .int 0, .int (-1), .int 0])) 32 (0, [.ref 33, .ref 44, .ref 55, .ref 66, .ref 167, .ref 170, .int 0, .int (-1), .int (-1)]) = h7 at *
  have G0 : ∀ b, b < 32 → h7 b = h b := fun b hb => by rw [g6 b (by omega) (by omega), g5 b (by omega) (by omega), g4 b (by omega) (by omega), g3 b (by omega) (by omega), g2 b (by omega) (by omega), g1 b hb]
  refine ⟨h7, hrun, ⟨k32, ⟨LAt_frame l1 WS_0 (fun b b1 b2 => ?_), WS_0⟩, ⟨LAt_frame l2 WS_0 (fun b b1 b2 => ?_), WS_0⟩, ⟨LAt_frame l3 WS_0 (fun b b1 b2 => ?_), WS_0⟩, ?_, ?_, fun i hi => ⟨LAt_frame (l4 i hi) WS_0 (fun b b1 b2 => ?_), WS_0⟩, fun b b1 b2 => by rw [G0 b b2]; exact ck b b1 b2, by decide, by decide⟩, PAt_frame p5 (fun b b1 b2 => g6 b (by omega) b2), ?_, G0⟩
  · rw [g6 b (by omega) (by omega), g5 b (by omega) (by omega), g4 b (by omega) (by omega), g3 b (by omega) (by omega), g2 b (by omega) (by omega)]
  · rw [g6 b (by omega) (by omega), g5 b (by omega) (by omega), g4 b (by omega) (by omega), g3 b (by omega) (by omega)]
  · rw [g6 b (by omega) (by omega), g5 b (by omega) (by omega), g4 b (by omega) (by omega)]
  · rw [g6 66 (by decide) (by decide), g5 66 (by decide) (by decide)]; exact a66
  · rw [g6 67 (by decide) (by decide), g5 67 (by decide) (by decide)]; exact a67
  · rw [g6 b (by unfold hQ at b1; omega) (by unfold hQ at b2; omega), g5 b (by unfold hQ at b1; omega) (by unfold hQ at b2; omega)]
  · exact SB_frame s6 (fun b hb => g6' b (by have := bAd_in 0; omega))
end CLASSC
