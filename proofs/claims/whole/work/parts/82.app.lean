/-! the class: its program beside its line; append, the errors, a program required -/
def PAt (h : PH) (T : Nat → Int32) (c n k : Nat) (s : PS) : Prop := PP h T c n k s = h
theorem PP_in (h : PH) (T : Nat → Int32) (c n k : Nat) (s : PS) : PP h T c n k s 167 = some (prO (gP n s.1 k s.2.2) c) ∧ PP h T c n k s 168 = some (cA 60 T) ∧ PP h T c n k s 169 = some (iA 3 s.2.1) := ⟨pput_0 .., pput_1 .., pput_2 ..⟩
theorem PP_o (h : PH) (T : Nat → Int32) (c n k : Nat) (s : PS) {b : Nat} (hb : b < 167 ∨ 170 ≤ b) : PP h T c n k s b = h b := pput_o h T _ _ c hb
theorem PAt_of {h : PH} {T : Nat → Int32} {c n k : Nat} {s : PS} (a : h 167 = some (prO (gP n s.1 k s.2.2) c)) (b : h 168 = some (cA 60 T)) (d : h 169 = some (iA 3 s.2.1)) : PAt h T c n k s := by
  unfold PAt
  funext x
  by_cases e : x < 167 ∨ 170 ≤ x
  · exact PP_o h T c n k s e
  · rcases (by omega : x = 167 ∨ x = 168 ∨ x = 169) with rfl | rfl | rfl
    · rw [a]; exact (PP_in h T c n k s).1
    · rw [b]; exact (PP_in h T c n k s).2.1
    · rw [d]; exact (PP_in h T c n k s).2.2
theorem PAt_in {h : PH} {T : Nat → Int32} {c n k : Nat} {s : PS} (a : PAt h T c n k s) : h 167 = some (prO (gP n s.1 k s.2.2) c) ∧ h 168 = some (cA 60 T) ∧ h 169 = some (iA 3 s.2.1) := by
  unfold PAt at a
  have z := PP_in h T c n k s
  rw [a] at z
  exact z
theorem PAt_frame {h h' : PH} {T : Nat → Int32} {c n k : Nat} {s : PS} (a : PAt h T c n k s) (e : ∀ b, 167 ≤ b → b < 170 → h' b = h b) : PAt h' T c n k s := by
  have z := PAt_in a
  exact PAt_of (by rw [e 167 (by decide) (by decide)]; exact z.1) (by rw [e 168 (by decide) (by decide)]; exact z.2.1) (by rw [e 169 (by decide) (by decide)]; exact z.2.2)
theorem PAt_PP (h : PH) (T : Nat → Int32) (c n k : Nat) (s : PS) : PAt (PP h T c n k s) T c n k s := by
  have z := PP_in h T c n k s
  exact PAt_of z.1 z.2.1 z.2.2
theorem AK_frame {h h' : PH} {L Sv Fc : LN} {Hs : Nat → LN} {nx ct : Nat} {sv er fa : Int32} (k : AK h L Sv Fc Hs nx ct sv er fa) (e : ∀ b, 1 ≤ b → b < 167 → h' b = h b) : AK h' L Sv Fc Hs nx ct sv er fa := by
  obtain ⟨z0, ⟨l33, w33⟩, ⟨l44, w44⟩, ⟨l55, w55⟩, z66, z67, lh, ck, n9, c8⟩ := k
  refine ⟨by rw [e 32 (by decide) (by decide)]; exact z0, ⟨LAt_frame l33 w33 (fun b b1 b2 => e b (by omega) (by omega)), w33⟩, ⟨LAt_frame l44 w44 (fun b b1 b2 => e b (by omega) (by omega)), w44⟩, ⟨LAt_frame l55 w55 (fun b b1 b2 => e b (by omega) (by omega)), w55⟩, by rw [e 66 (by decide) (by decide)]; exact z66, by rw [e 67 (by decide) (by decide)]; exact z67, fun i hi => ?_, fun b b1 b2 => by rw [e b b1 (by omega)]; exact ck b b1 b2, n9, c8⟩
  obtain ⟨a, b⟩ := lh i hi
  exact ⟨LAt_frame a b (fun x x1 x2 => e x (by unfold hQ at x1; omega) (by unfold hQ at x2; omega)), b⟩
section APP
variable {h : PH} {L Sv Fc : LN} {Hs : Nat → LN} {nx ct : Nat} {sv er fa : Int32} {T : Nat → Int32} {c n k : Nat} {s : PS} (r : Nat × Nat × Nat)
theorem m135n (a : AK h L Sv Fc Hs nx ct sv er fa) (p : PAt h T c n k s) (hn : n = 60) (v : Int32) : rcal 135 [.ref 32, .int v] (h, r) = some (.inr 2, hsx (h, r)) := by
  have g4 := gf_of a.1 r 4
  have e69 := m69 h T s.2.1 (gP n s.1 k s.2.2) c r (n := n) rfl (by omega)
  have e69' : rcal 69 [.ref 167] (h, r) = some (.inl (some (.int 1)), (h, r)) := by
    rw [show pput h T s.2.1 (gP n s.1 k s.2.2) c = h from p, if_neg (by omega)] at e69; exact e69
  have rv4 := rv_of (PAt_in p).1 r
  have o1 : ¬ (1 : Int32) = 0 := by decide
  simp only [c135, x135_0, x135_1, x135_4, x135_7, x135_10, x135_21, x135_22, x135_25, x135_26, x135_29, gk_some, pk_some, qk_some, bnd_v, bnd_n, kl_int, kl_ref, kl_null, kl_un, Nat.reduceAdd, if_true, if_false, g4, List.getElem?_cons_zero, List.getElem?_cons_succ, rv4, e69', o1]
theorem m135 (a : AK h L Sv Fc Hs nx ct sv er fa) (p : PAt h T c n k s) (hn : n < 60) (v : Int32) : rcal 135 [.ref 32, .int v] (h, r) = some (.inl (some (.int (I (n + 1)))), (PP h (up T n (vp_nar .char v)) c (n + 1) k s, r)) ∧ AK (PP h (up T n (vp_nar .char v)) c (n + 1) k s) L Sv Fc Hs nx ct sv er fa := by
  refine ⟨?_, AK_frame a (fun b b1 b2 => PP_o _ _ _ _ _ _ (Or.inl b2))⟩
  have g4 := gf_of a.1 r 4
  have e69 := m69 h T s.2.1 (gP n s.1 k s.2.2) c r (n := n) rfl (by omega)
  have e69' : rcal 69 [.ref 167] (h, r) = some (.inl (some (.int 0)), (h, r)) := by
    rw [show pput h T s.2.1 (gP n s.1 k s.2.2) c = h from p, if_pos hn] at e69; exact e69
  have e70 := m70 h T s.2.1 (gP n s.1 k s.2.2) c r (n := n) rfl hn v
  have e70' : rcal 70 [.ref 167, .int v] (h, r) = some (.inl (some (.int (I (n + 1)))), (PP h (up T n (vp_nar .char v)) c (n + 1) k s, r)) := by
    rw [show pput h T s.2.1 (gP n s.1 k s.2.2) c = h from p, gP_u1] at e70; exact e70
  have rv4 := rv_of (PAt_in p).1 r
  simp only [c135, x135_0, x135_1, x135_4, x135_7, x135_10, x135_21, x135_22, x135_25, x135_26, x135_29, gk_some, pk_some, qk_some, bnd_v, bnd_n, kl_int, kl_ref, kl_null, kl_un, Nat.reduceAdd, if_true, if_false, g4, List.getElem?_cons_zero, List.getElem?_cons_succ, rv4, e69', e70']
theorem m137n (a : AK h L Sv Fc Hs nx ct sv er fa) (e : er = -1) : rcal 137 [.ref 32] (h, r) = some (.inr 3, hsx (h, r)) := by
  have g7 := gf_of a.1 r 7
  simp only [c137, x137_0, x137_1, x137_4, x137_5, x137_8, x137_19, x137_20, x137_23, gk_some, pk_some, qk_some, bnd_v, bnd_n, kl_int, kl_ref, kl_null, kl_un, Nat.reduceAdd, if_true, if_false, g7, List.getElem?_cons_zero, List.getElem?_cons_succ, e]
theorem m137 (a : AK h L Sv Fc Hs nx ct sv er fa) (e : ¬ er = -1) : rcal 137 [.ref 32] (h, r) = some (.inl (some (.int er)), (h, r)) := by
  have g7 := gf_of a.1 r 7
  simp only [c137, x137_0, x137_1, x137_4, x137_5, x137_8, x137_19, x137_20, x137_23, gk_some, pk_some, qk_some, bnd_v, bnd_n, kl_int, kl_ref, kl_null, kl_un, Nat.reduceAdd, if_true, if_false, g7, List.getElem?_cons_zero, List.getElem?_cons_succ, e]
theorem m138n (a : AK h L Sv Fc Hs nx ct sv er fa) (e : fa = -1) : rcal 138 [.ref 32] (h, r) = some (.inr 3, hsx (h, r)) := by
  have g8 := gf_of a.1 r 8
  simp only [c138, x138_0, x138_1, x138_4, x138_5, x138_8, x138_19, x138_20, x138_23, gk_some, pk_some, qk_some, bnd_v, bnd_n, kl_int, kl_ref, kl_null, kl_un, Nat.reduceAdd, if_true, if_false, g8, List.getElem?_cons_zero, List.getElem?_cons_succ, e]
theorem m138 (a : AK h L Sv Fc Hs nx ct sv er fa) (e : ¬ fa = -1) : rcal 138 [.ref 32] (h, r) = some (.inl (some (.int fa)), (h, r)) := by
  have g8 := gf_of a.1 r 8
  simp only [c138, x138_0, x138_1, x138_4, x138_5, x138_8, x138_19, x138_20, x138_23, gk_some, pk_some, qk_some, bnd_v, bnd_n, kl_int, kl_ref, kl_null, kl_un, Nat.reduceAdd, if_true, if_false, g8, List.getElem?_cons_zero, List.getElem?_cons_succ, e]
/-- the program's looking through: its answer, its commands, the parser after it, the command -/
abbrev FE (T : Nat → Int32) (n c : Nat) (s : PS) : Int32 × Nat × PS × Nat := feL T n 60 0 (0, s.2) c
theorem k73 (a : AK h L Sv Fc Hs nx ct sv er fa) (p : PAt h T c n k s) (h6 : n ≤ 60) (o : psOk s) : rcal 73 [.ref 167] (h, r) = some (.inl (some (.int (FE T n c s).1)), (PP h T (FE T n c s).2.2.2 n (FE T n c s).2.1 (FE T n c s).2.2.1, r)) := by
  obtain ⟨z0, l33, l44, l55, z66, z67, lh, ck, n9, c8⟩ := a
  have e := q73 h T r (n := n) (k := k) (c := c) (s := s) h6 ck o
  rw [show PP h T c n k s = h from p] at e
  exact e
theorem m139 (a : AK h L Sv Fc Hs nx ct sv er fa) (p : PAt h T c n k s) (h6 : n ≤ 60) (o : psOk s) (q : (FE T n c s).1 = -1) : rcal 139 [.ref 32] (h, r) = some (.inl none, (PP h T (FE T n c s).2.2.2 n (FE T n c s).2.1 (FE T n c s).2.2.1, r)) ∧ AK (PP h T (FE T n c s).2.2.2 n (FE T n c s).2.1 (FE T n c s).2.2.1) L Sv Fc Hs nx ct sv er fa := by
  refine ⟨?_, AK_frame a (fun b b1 b2 => PP_o _ _ _ _ _ _ (Or.inl b2))⟩
  have g4 := gf_of a.1 r 4
  have e := k73 r a p h6 o
  have rv4 := rv_of (PAt_in p).1 r
  simp only [c139, x139_0, x139_1, x139_4, x139_7, x139_8, x139_9, x139_10, x139_13, x139_14, x139_15, x139_18, x139_19, x139_22, x139_25, x139_36, gk_some, pk_some, qk_some, bnd_v, bnd_n, kl_int, kl_ref, kl_null, kl_un, Nat.reduceAdd, if_true, if_false, g4, List.getElem?_cons_zero, List.getElem?_cons_succ, rv4, e, q]
theorem m139n (a : AK h L Sv Fc Hs nx ct sv er fa) (p : PAt h T c n k s) (h6 : n ≤ 60) (o : psOk s) (q : ¬ (FE T n c s).1 = -1) : ∃ h', rcal 139 [.ref 32] (h, r) = some (.inr 1, hsx (h', r)) ∧ AK h' L Sv Fc Hs nx ct sv (FE T n c s).1 fa ∧ PAt h' T (FE T n c s).2.2.2 0 (FE T n c s).2.1 (FE T n c s).2.2.1 ∧ ∀ b, b = 0 ∨ 170 ≤ b → h' b = h b := by
  have g4 := gf_of a.1 r 4
  have e := k73 r a p h6 o
  have rv4 := rv_of (PAt_in p).1 r
  have a1 := AK_frame (h' := PP h T (FE T n c s).2.2.2 n (FE T n c s).2.1 (FE T n c s).2.2.1) a (fun b b1 b2 => PP_o _ _ _ _ _ _ (Or.inl b2))
  have p1 := PAt_PP h T (FE T n c s).2.2.2 n (FE T n c s).2.1 (FE T n c s).2.2.1
  have ob : ∀ b, b = 0 ∨ 170 ≤ b → PP h T (FE T n c s).2.2.2 n (FE T n c s).2.1 (FE T n c s).2.2.1 b = h b := fun b hb => PP_o _ _ _ _ _ _ (by omega)
  generalize FE T n c s = w at *
  generalize PP h T w.2.2.2 n w.2.1 w.2.2.1 = h1 at *
  have a2 := AK_32 (k := a1) sv w.1 fa
  have w7 := pf_of (k := 7) (v := .int w.1) a1.1 r (by decide) (by decide) rfl
  simp only [List.set_cons_succ, List.set_cons_zero] at w7
  have ox : ∀ b, b ≠ 32 → pu h1 32 (0, [.ref 33, .ref 44, .ref 55, .ref 66, .ref 167, .ref 170, .int sv, .int w.1, .int fa]) b = h1 b := fun b hb => by simp [pu, hb]
  have p2 : PAt (pu h1 32 (0, [.ref 33, .ref 44, .ref 55, .ref 66, .ref 167, .ref 170, .int sv, .int w.1, .int fa])) T w.2.2.2 n w.2.1 w.2.2.1 := PAt_frame p1 (fun b b1 b2 => ox b (by omega))
  generalize pu h1 32 (0, [.ref 33, .ref 44, .ref 55, .ref 66, .ref 167, .ref 170, .int sv, .int w.1, .int fa]) = h2 at *
  have g4' := gf_of a2.1 r 4
  have rv4' := rv_of (PAt_in p2).1 r
  have e71 := m71 h2 T w.2.2.1.2.1 (gP n w.2.2.1.1 w.2.1 w.2.2.1.2.2) w.2.2.2 r
  have e71' : rcal 71 [.ref 167] (h2, r) = some (.inl none, (PP h2 T w.2.2.2 0 w.2.1 w.2.2.1, r)) := by
    rw [show pput h2 T w.2.2.1.2.1 (gP n w.2.2.1.1 w.2.1 w.2.2.1.2.2) w.2.2.2 = h2 from p2, gP_u10] at e71
    exact e71
  refine ⟨PP h2 T w.2.2.2 0 w.2.1 w.2.2.1, ?_, AK_frame a2 (fun b b1 b2 => PP_o _ _ _ _ _ _ (Or.inl b2)), PAt_PP .., fun b hb => ?_⟩
  · simp only [c139, x139_0, x139_1, x139_4, x139_7, x139_8, x139_9, x139_10, x139_13, x139_14, x139_15, x139_18, x139_19, x139_22, x139_25, x139_36, gk_some, pk_some, qk_some, bnd_v, bnd_n, kl_int, kl_ref, kl_null, kl_un, Nat.reduceAdd, if_true, if_false, g4, List.getElem?_cons_zero, List.getElem?_cons_succ, rv4, e, q, w7, g4', rv4', e71']
  · rw [PP_o _ _ _ _ _ _ (by omega), ox b (by omega)]
    exact ob b hb
end APP
