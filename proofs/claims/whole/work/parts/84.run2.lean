/-! the class's run, whole -/
theorem feL_ok {T : Nat → Int32} {n : Nat} (h6 : n ≤ 60) : ∀ (f k j : Nat) (s : PS), psOk s → j < 7 → k + f ≤ 60 → (feL T n f k s (5 + j)).2.1 ≤ 60 ∧ psOk (feL T n f k s (5 + j)).2.2.1 ∧ ∃ j', j' < 7 ∧ (feL T n f k s (5 + j)).2.2.2 = 5 + j'
  | 0, k, j, s, o, hj, hk => ⟨by unfold feL feE; exact hk, o, j, hj, rfl⟩
  | f + 1, k, j, s, o, hj, hk => by
    have z := rdL_ok (T := T) (n := n) (p0 := s.1) h6 o.1 forms 0 s.1 s o.1 o.2
    have zj : ∀ q, (rdL T n s.1 forms 0 s.1 s).1 = some q → q < 7 := rdL_lt forms 0 _ _ (by decide)
    unfold feL
    rw [cmR_j]
    generalize rdL T n s.1 forms 0 s.1 s = w at *
    obtain ⟨w1, w2⟩ := w
    have hj2 : jR j w1 < 7 := by
      cases w1 with
      | none => exact hj
      | some q => exact zj q rfl
    split
    · split
      · next q => exact feL_ok h6 f (k + 1) (jR j w1) (w2.1 + 1, w2.2) (psOk_sgn (T := T) h6 z q) hj2 (by omega)
      · exact ⟨by show k + 1 ≤ 60; omega, z, _, hj2, rfl⟩
    · exact ⟨by show k ≤ 60; omega, z, j, hj, rfl⟩
section RUN2
variable {h : PH} {L Sv Fc : LN} {Hs : Nat → LN} {nx ct : Nat} {sv er fa : Int32} {T : Nat → Int32} {n k j : Nat} {s : PS} (r : Nat × Nat × Nat)
theorem m136a (a : AK h L Sv Fc Hs nx ct sv er fa) (p : PAt h T (5 + j) n k s) (h6 : n ≤ 60) (o : psOk s) (q : ¬ (FE T n (5 + j) s).1 = -1) : ∃ h', rcal 136 [.ref 32] (h, r) = some (.inr 1, hsx (h', r)) ∧ AK h' L Sv Fc Hs nx ct sv (FE T n (5 + j) s).1 fa ∧ PAt h' T (FE T n (5 + j) s).2.2.2 0 (FE T n (5 + j) s).2.1 (FE T n (5 + j) s).2.2.1 ∧ ∀ b, b = 0 ∨ 170 ≤ b → h' b = h b := by
  obtain ⟨h', e, x1, x2, x3⟩ := m139n r a p h6 o q
  refine ⟨h', ?_, x1, x2, x3⟩
  have rv := rv_of a.1 r
  simp only [c136, x136_0, x136_1, rv, e, bnd_x 136 _ _ _ _ _ rfl]
/-- the run's loop from a program that stands -/
abbrev RN (T : Nat → Int32) (n j' : Nat) (w : Int32 × Nat × PS × Nat) (L : LN) : Int32 × Nat × PS × Nat × LN := rnL T n w.2.1 (0, w.2.2.1.2) j' 0 L
theorem l136 (a : AK h L Sv Fc Hs nx ct sv er fa) (p : PAt h T (5 + j) n k s) (h6 : n ≤ 60) (o : psOk s) (q : (FE T n (5 + j) s).1 = -1) (hj : j < 7) {X N : Int} (hL : FL X N L) (h0 : 0 ≤ X) (hX : X + 60 * (FE T n (5 + j) s).2.1 ≤ 31000) (hN : N + (FE T n (5 + j) s).2.1 ≤ 512) :
    ∃ j' h', j' < 7 ∧ rcal 136 [.ref 32] (h, r) = rn 136 93 [.ref 32, .ref 169, .int (I ((FE T n (5 + j) s).2.1 - (RN T n j' (FE T n (5 + j) s) L).2.1)), .int (RN T n j' (FE T n (5 + j) s) L).1] [] (h', r) ∧ AK h' (RN T n j' (FE T n (5 + j) s) L).2.2.2.2 Sv Fc (fun i => if i = nx then cpL (Hs nx) L else Hs i) nx ct sv er fa ∧ PAt h' T (5 + (RN T n j' (FE T n (5 + j) s) L).2.2.2.1) 0 (FE T n (5 + j) s).2.1 (RN T n j' (FE T n (5 + j) s) L).2.2.1 ∧ (∀ b, b = 0 ∨ 170 ≤ b → h' b = h b) ∧ FL (X + 60 * (FE T n (5 + j) s).2.1) (N + (FE T n (5 + j) s).2.1) (RN T n j' (FE T n (5 + j) s) L).2.2.2.2 ∧ (RN T n j' (FE T n (5 + j) s) L).2.2.2.1 < 7 ∧ psOk (RN T n j' (FE T n (5 + j) s) L).2.2.1 := by
  have rv := rv_of a.1 r
  obtain ⟨e139, a1⟩ := m139 r a p h6 o q
  obtain ⟨fk, fo, j', fj, fc⟩ := feL_ok (T := T) h6 60 0 j (0, s.2) ⟨Nat.zero_le _, o.2⟩ hj (by decide)
  have p1 := PAt_PP h T (FE T n (5 + j) s).2.2.2 n (FE T n (5 + j) s).2.1 (FE T n (5 + j) s).2.2.1
  have ob : ∀ b, b = 0 ∨ 170 ≤ b → PP h T (FE T n (5 + j) s).2.2.2 n (FE T n (5 + j) s).2.1 (FE T n (5 + j) s).2.2.1 b = h b := fun b hb => PP_o _ _ _ _ _ _ (by omega)
  change (FE T n (5 + j) s).2.1 ≤ 60 at fk
  change psOk (FE T n (5 + j) s).2.2.1 at fo
  change (FE T n (5 + j) s).2.2.2 = 5 + j' at fc
  generalize FE T n (5 + j) s = w at *
  rw [fc] at p1
  rw [fc] at ob
  rw [fc] at a1
  rw [fc] at e139
  generalize PP h T (5 + j') n w.2.1 w.2.2.1 = h1 at *
  have n9 : nx < 9 := a1.2.2.2.2.2.2.2.2.1
  have hq := a1.2.2.2.2.2.2.1 nx n9
  have w2 := WS_cp (D := Hs nx) (L := L) hq.2 a1.2.1.2
  have e30 := m30 r a1
  have a2 := AK_hist (k := a1) n9 (L' := cpL (Hs nx) L) w2
  have p2 : PAt (putL h1 (hQ nx) (cpL (Hs nx) L)) T (5 + j') n w.2.1 w.2.2.1 := PAt_frame p1 (fun b b1 b2 => putL_out h1 w2 (by unfold hQ; omega))
  have ob2 : ∀ b, b = 0 ∨ 170 ≤ b → putL h1 (hQ nx) (cpL (Hs nx) L) b = h b := fun b hb => by rw [putL_out h1 w2 (by unfold hQ; omega)]; exact ob b hb
  generalize putL h1 (hQ nx) (cpL (Hs nx) L) = h2 at *
  have e72 := m72 h2 T w.2.2.1.2.1 (gP n w.2.2.1.1 w.2.1 w.2.2.1.2.2) (5 + j') r
  have e72' : rcal 72 [.ref 167] (h2, r) = some (.inl none, (PP h2 T (5 + j') n w.2.1 (0, w.2.2.1.2), r)) := by
    rw [show pput h2 T w.2.2.1.2.1 (gP n w.2.2.1.1 w.2.1 w.2.2.1.2.2) (5 + j') = h2 from p2, gP_u20] at e72
    exact e72
  have a3 := AK_frame (h' := PP h2 T (5 + j') n w.2.1 (0, w.2.2.1.2)) a2 (fun b b1 b2 => PP_o _ _ _ _ _ _ (Or.inl b2))
  have p3 := PAt_PP h2 T (5 + j') n w.2.1 (0, w.2.2.1.2)
  have ob3 : ∀ b, b = 0 ∨ 170 ≤ b → PP h2 T (5 + j') n w.2.1 (0, w.2.2.1.2) b = h b := fun b hb => by rw [PP_o _ _ _ _ _ _ (by omega)]; exact ob2 b hb
  generalize PP h2 T (5 + j') n w.2.1 (0, w.2.2.1.2) = h3 at *
  obtain ⟨h4, e1, e2, e3, e4, e5, e6, e7⟩ := q136 r h6 fk w.2.1 0 j' (0, w.2.2.1.2) 0 L X N h3 (by omega) fj ⟨Nat.zero_le _, fo.2⟩ hL h0 hX hN a3 p3
  rw [show I 0 = 0 from rfl] at e1
  refine ⟨j', ?_⟩
  have hR : rnL T n w.2.1 (0, w.2.2.1.2) j' 0 L = RN T n j' w L := rfl
  rw [hR] at e1 e2 e3 e5 e6 e7
  generalize RN T n j' w L = R at *
  have e71 := m71 h4 T R.2.2.1.2.1 (gP n R.2.2.1.1 w.2.1 R.2.2.1.2.2) (5 + R.2.2.2.1) r
  have e71' : rcal 71 [.ref 167] (h4, r) = some (.inl none, (PP h4 T (5 + R.2.2.2.1) 0 w.2.1 R.2.2.1, r)) := by
    rw [show pput h4 T R.2.2.1.2.1 (gP n R.2.2.1.1 w.2.1 R.2.2.1.2.2) (5 + R.2.2.2.1) = h4 from e3, gP_u10] at e71
    exact e71
  refine ⟨PP h4 T (5 + R.2.2.2.1) 0 w.2.1 R.2.2.1, fj, ?_, AK_frame e2 (fun b b1 b2 => PP_o _ _ _ _ _ _ (Or.inl b2)), PAt_PP .., fun b hb => ?_, e5, e6, e7⟩
  · have g3 := gf_of a1.1 r 3
    have g0 := gf_of a1.1 r 0
    have rv66 := rv_of a1.2.2.2.2.1 r
    have g4 := gf_of a2.1 r 4
    have rv4 := rv_of (PAt_in p2).1 r
    have g4' := gf_of a3.1 r 4
    have q5 := gf_of (PAt_in p3).1 r 5
    have g4'' := gf_of e2.1 r 4
    have rv4' := rv_of (PAt_in e3).1 r
    rw [c136, x136_0, x136_1 (h := rv), e139]
    simp only [gk_some, pk_some, qk_some, bnd_v, bnd_n, kl_int, kl_ref, kl_null, kl_un, Nat.reduceAdd, if_true, if_false, x136_4, x136_5, g3, List.getElem?_cons_zero, List.getElem?_cons_succ, x136_8, x136_9, g0, x136_12, rv66, e30, x136_15, x136_16, g4, x136_19, rv4, e72', x136_22, x136_23, g4', x136_26, q5, x136_29, x136_30, x136_31, x136_32, x136_33, e1, x136_86, x136_87, g4'', x136_90, rv4', e71']
  · rw [PP_o _ _ _ _ _ _ (by omega), e4 b hb]
    exact ob3 b hb
end RUN2
section RUN3
variable {h : PH} {L Sv Fc : LN} {Hs : Nat → LN} {nx ct : Nat} {sv er fa : Int32} (r : Nat × Nat × Nat)
theorem e136b (a : AK h L Sv Fc Hs nx ct sv er fa) {i v : Int32} (hv : v < 0) : ∃ h', rn 136 93 [.ref 32, .ref 169, .int i, .int v] [] (h, r) = some (.inr 5, hsx (h', r)) ∧ AK h' (cpL L (Hs nx)) Sv Fc Hs nx ct sv er (i - 1) ∧ ∀ b, b = 0 ∨ 167 ≤ b → h' b = h b := by
  have p8 := pf_of (k := 8) (v := .int (i - 1)) a.1 r (by decide) (by decide) rfl
  simp only [List.set_cons_succ, List.set_cons_zero] at p8
  have a1 := AK_32 (k := a) sv er (i - 1)
  have ox : ∀ b, b ≠ 32 → pu h 32 (0, [.ref 33, .ref 44, .ref 55, .ref 66, .ref 167, .ref 170, .int sv, .int er, .int (i - 1)]) b = h b := fun b hb => by simp [pu, hb]
  generalize pu h 32 (0, [.ref 33, .ref 44, .ref 55, .ref 66, .ref 167, .ref 170, .int sv, .int er, .int (i - 1)]) = h1 at *
  have n9 : nx < 9 := a1.2.2.2.2.2.2.2.2.1
  have hq := a1.2.2.2.2.2.2.1 nx n9
  have e31 := m31 r a1
  have ecp := cp_line r (p := 33) (q := hQ nx) (by decide) (by unfold hQ; omega) a1.2.1.1 a1.2.1.2 hq.1 hq.2 (Or.inr (by unfold hQ; omega))
  have w2 := WS_cp (D := L) (L := Hs nx) a1.2.1.2 hq.2
  have a2 := AK_line (k := a1) w2
  have g0 := gf_of a1.1 r 0
  have g3 := gf_of a1.1 r 3
  have rv66 := rv_of a1.2.2.2.2.1 r
  have rvl := rvL_of r a1.2.1.1
  refine ⟨_, ?_, a2, fun b hb => ?_⟩
  · simp only [x136_0, x136_1, x136_4, x136_5, x136_8, x136_9, x136_12, x136_15, x136_16, x136_19, x136_22, x136_23, x136_26, x136_29, x136_30, x136_31, x136_32, x136_33, x136_34, x136_35, x136_36, x136_39, x136_42, x136_45, x136_46, x136_49, x136_50, x136_53, x136_56, x136_57, x136_60, x136_61, x136_64, x136_67, x136_68, x136_69, x136_70, x136_71, x136_72, x136_73, x136_74, x136_75, x136_76, x136_79, x136_80, x136_83, x136_86, x136_87, x136_90, x136_93, x136_94, x136_97, x136_98, x136_99, x136_100, x136_101, x136_104, x136_105, x136_108, x136_109, x136_112, x136_115, x136_118, x136_129, x136_130, x136_133, x136_136, x136_137, gk_some, pk_some, qk_some, bnd_v, bnd_n, kl_int, kl_ref, kl_null, kl_un, Nat.reduceAdd, if_true, if_false, hv, p8, g0, g3, List.getElem?_cons_zero, List.getElem?_cons_succ, rv66, e31, rvl, ecp]
  · rw [putL_out h1 w2 (by omega)]; exact ox b (by omega)
theorem e136c (a : AK h L Sv Fc Hs nx ct sv er fa) {i v : Int32} (hv : ¬ v < 0) : ∃ h', rn 136 93 [.ref 32, .ref 169, .int i, .int v] [] (h, r) = some (.inl (some (.int i)), (h', r)) ∧ AK h' L Sv Fc Hs ((nx + 1) % 9) (min (ct + 1) 8) sv er fa ∧ ∀ b, b = 0 ∨ 167 ≤ b → h' b = h b := by
  have n9 : nx < 9 := a.2.2.2.2.2.2.2.2.1
  have c8 : ct ≤ 8 := a.2.2.2.2.2.2.2.2.2
  have e32 := m32 r a.2.2.2.2.1 n9 c8
  have g3 := gf_of a.1 r 3
  have rv66 := rv_of a.2.2.2.2.1 r
  refine ⟨_, ?_, AK_66 (k := a) (nx' := (nx + 1) % 9) (ct' := min (ct + 1) 8) (Nat.mod_lt _ (by decide)) (by omega), fun b hb => ?_⟩
  · simp only [x136_0, x136_1, x136_4, x136_5, x136_8, x136_9, x136_12, x136_15, x136_16, x136_19, x136_22, x136_23, x136_26, x136_29, x136_30, x136_31, x136_32, x136_33, x136_34, x136_35, x136_36, x136_39, x136_42, x136_45, x136_46, x136_49, x136_50, x136_53, x136_56, x136_57, x136_60, x136_61, x136_64, x136_67, x136_68, x136_69, x136_70, x136_71, x136_72, x136_73, x136_74, x136_75, x136_76, x136_79, x136_80, x136_83, x136_86, x136_87, x136_90, x136_93, x136_94, x136_97, x136_98, x136_99, x136_100, x136_101, x136_104, x136_105, x136_108, x136_109, x136_112, x136_115, x136_118, x136_129, x136_130, x136_133, x136_136, x136_137, gk_some, pk_some, qk_some, bnd_v, bnd_n, kl_int, kl_ref, kl_null, kl_un, Nat.reduceAdd, if_true, if_false, hv, g3, List.getElem?_cons_zero, List.getElem?_cons_succ, rv66, e32]
  · have : b ≠ 66 := by omega
    simp [pu, this]
end RUN3
