/-! the two quotients, both sides -/
def ndK : Prop := ∀ x y : Int32, ¬ y = 0 → (FP.ddiv (FP.i2d x) (FP.i2d y) &&& 0x7fffffffffffffff ≤ 0x7ff0000000000000) ∧ Op.cmpValue (FP.dcmp (FP.ddiv (FP.i2d x) (FP.i2d y)) (FP.ddiv (FP.i2d x) (FP.i2d y))) .l = 0
def nfK : Prop := ∀ x y : Int32, ¬ y = 0 → (FP.fdiv (FP.i2f x) (FP.i2f y) &&& 0x7fffffff ≤ 0x7f800000) ∧ (FP.f2d (FP.fdiv (FP.i2f x) (FP.i2f y)) &&& 0x7fffffffffffffff ≤ 0x7ff0000000000000) ∧ Op.cmpValue (FP.dcmp (FP.f2d (FP.fdiv (FP.i2f x) (FP.i2f y))) (FP.f2d (FP.fdiv (FP.i2f x) (FP.i2f y)))) .l = 0
theorem l2d_i2d (x : Int32) : FP.l2d x.toInt64 = FP.i2d x := by
  show UInt64.ofNat (FP.Core.fromInt FP.Core.b64 x.toInt64.toInt) = UInt64.ofNat (FP.Core.fromInt FP.Core.b64 x.toInt)
  rw [Int32.toInt_toInt64]
section MQF
variable (h : PH) {p : Nat} (g : Nat → Int32) (A : Nat → Nat → Int32) (r : Nat × Nat × Nat) {L : LN}
theorem u221n (hp : 32 ≤ p) (hM : MRL (A 1) L) (hd : L.1 8 = 0) : rcal 221 [.ref p] (mput h p g A, r) = some (.inl (some (.double FP.dconst0)), (mput h p (up g 9 1) A, r)) := by
  have w := pm9 h g A r hp 0
  have r4 := rn1 h (up g 9 0) A r (p := p) (n := 4) (by decide)
  rw [show I 4 = 4 from rfl, hM.1.2.2.2.1, hd] at r4
  have z := m150z h g A r hp 1
  simp only [c221, x221_0, x221_1, x221_2, x221_5, x221_6, x221_9, x221_10, x221_11, x221_14, x221_15, x221_16, x221_19, x221_20, x221_21, x221_22, x221_23, x221_26, x221_28, x221_29, x221_30, x221_31, x221_34, x221_35, x221_36, x221_38, gk_some, pk_some, qk_some, bnd_v, bnd_n, kl_int, kl_ref, kl_null, kl_un, Nat.reduceAdd, if_true, if_false, gm0, gm1, gm2, gm3, gm4, gm5, gm6, gm7, gm8, gm9, gm10, gm11, gm12, gm13, gm14, gm15, gm16, gm17, gm18, gm19, gm20, gm21, gm22, rvM, rvM, w, r4, z]
theorem u221 (hp : 32 ≤ p) (hM : MRL (A 1) L) (hd : ¬ L.1 8 = 0) (nn : FP.ddiv (FP.i2d (L.1 10)) (FP.i2d (L.1 8)) &&& 0x7fffffffffffffff ≤ 0x7ff0000000000000) : rcal 221 [.ref p] (mput h p g A, r) = some (.inl (some (.double (FP.ddiv (FP.i2d (L.1 10)) (FP.i2d (L.1 8))))), (mput h p (up g 9 0) A, r)) := by
  have w := pm9 h g A r hp 0
  have r4 := rn1 h (up g 9 0) A r (p := p) (n := 4) (by decide)
  rw [show I 4 = 4 from rfl, hM.1.2.2.2.1] at r4
  have r8 := rn1 h (up g 9 0) A r (p := p) (n := 8) (by decide)
  rw [show I 8 = 8 from rfl, hM.1.2.2.2.2.2.2.2.1] at r8
  simp only [c221, x221_0, x221_1, x221_2, x221_5, x221_6, x221_9, x221_10, x221_11, x221_14, x221_15, x221_16, x221_19, x221_20, x221_21, x221_22, x221_23, x221_26, x221_28, x221_29, x221_30, x221_31, x221_34, x221_35, x221_36, x221_38, x221_37 (h := nn), gk_some, pk_some, qk_some, bnd_v, bnd_n, kl_int, kl_ref, kl_null, kl_un, Nat.reduceAdd, if_true, if_false, gm0, gm1, gm2, gm3, gm4, gm5, gm6, gm7, gm8, gm9, gm10, gm11, gm12, gm13, gm14, gm15, gm16, gm17, gm18, gm19, gm20, gm21, gm22, rvM, rvM, w, r4, r8, hd]
theorem u222n (hp : 32 ≤ p) (hM : MRL (A 1) L) (hd : L.1 8 = 0) : rcal 222 [.ref p] (mput h p g A, r) = some (.inl (some (.float FP.fconst0)), (mput h p (up g 9 1) A, r)) := by
  have w := pm9 h g A r hp 0
  have r4 := rn1 h (up g 9 0) A r (p := p) (n := 4) (by decide)
  rw [show I 4 = 4 from rfl, hM.1.2.2.2.1, hd] at r4
  have z := m150z h g A r hp 1
  simp only [c222, x222_0, x222_1, x222_2, x222_5, x222_6, x222_9, x222_10, x222_11, x222_14, x222_15, x222_16, x222_19, x222_20, x222_21, x222_22, x222_23, x222_26, x222_28, x222_29, x222_30, x222_31, x222_34, x222_35, x222_36, x222_38, gk_some, pk_some, qk_some, bnd_v, bnd_n, kl_int, kl_ref, kl_null, kl_un, Nat.reduceAdd, if_true, if_false, gm0, gm1, gm2, gm3, gm4, gm5, gm6, gm7, gm8, gm9, gm10, gm11, gm12, gm13, gm14, gm15, gm16, gm17, gm18, gm19, gm20, gm21, gm22, rvM, rvM, w, r4, z]
theorem u222 (hp : 32 ≤ p) (hM : MRL (A 1) L) (hd : ¬ L.1 8 = 0) (nn : FP.fdiv (FP.i2f (L.1 12)) (FP.i2f (L.1 8)) &&& 0x7fffffff ≤ 0x7f800000) : rcal 222 [.ref p] (mput h p g A, r) = some (.inl (some (.float (FP.fdiv (FP.i2f (L.1 12)) (FP.i2f (L.1 8))))), (mput h p (up g 9 0) A, r)) := by
  have w := pm9 h g A r hp 0
  have r4 := rn1 h (up g 9 0) A r (p := p) (n := 4) (by decide)
  rw [show I 4 = 4 from rfl, hM.1.2.2.2.1] at r4
  have r7 := rn1 h (up g 9 0) A r (p := p) (n := 7) (by decide)
  rw [show I 7 = 7 from rfl, hM.1.2.2.2.2.2.2.1] at r7
  simp only [c222, x222_0, x222_1, x222_2, x222_5, x222_6, x222_9, x222_10, x222_11, x222_14, x222_15, x222_16, x222_19, x222_20, x222_21, x222_22, x222_23, x222_26, x222_28, x222_29, x222_30, x222_31, x222_34, x222_35, x222_36, x222_38, x222_37 (h := nn), gk_some, pk_some, qk_some, bnd_v, bnd_n, kl_int, kl_ref, kl_null, kl_un, Nat.reduceAdd, if_true, if_false, gm0, gm1, gm2, gm3, gm4, gm5, gm6, gm7, gm8, gm9, gm10, gm11, gm12, gm13, gm14, gm15, gm16, gm17, gm18, gm19, gm20, gm21, gm22, rvM, rvM, w, r4, r7, hd]
end MQF
section CASEF
variable {i : Nat} {H H1 H2 : HS}
theorem z34 {k : Int32} {b : UInt64} (ew : rcal 271 [.ref 32, .ref 185] H = some (.inl (some (.int k)), H1)) (em : rcal 221 [.ref 172] H1 = some (.inl (some (.double b)), H2)) (et : rcal 149 [.ref 172] H2 = some (.inl (some (.int k)), H2)) (v1 : recv H1 172 5 = true) (v2 : recv H2 172 5 = true) (ho : k = 0 → ald H2 104 185 0 = some (.double b) ∧ Op.cmpValue (FP.dcmp b b) .l = 0) (l6 l7 l8 : Value) : ∃ x y z, rn 281 1933 [.ref 0, .ref 32, .ref 172, .ref 184, .ref 185, .int (I i), l6, l7, l8] [] H = rn 281 2471 [.ref 0, .ref 32, .ref 172, .ref 184, .ref 185, .int (I i), x, y, z] [] H2 := by
  refine ⟨.int k, .double b, un, ?_⟩
  by_cases q : k = 0
  · obtain ⟨o, o2⟩ := ho q
    rw [q] at ew et ⊢
    simp only [x281_1933, x281_1934, x281_1936, x281_1939, x281_1941, x281_1942, x281_1945, x281_1947, x281_1948, x281_1951, x281_1953, x281_1958, x281_1960, x281_1963, x281_1965, x281_1966, x281_1967, x281_1969, x281_1970, x281_1995, gk_some, pk_some, qk_some, bnd_v, bnd_n, kl_int, kl_ref, kl_null, kl_un, Nat.reduceAdd, if_true, if_false, ew, em, et, v1, v2, o, o2]
  · simp only [x281_1933, x281_1934, x281_1936, x281_1939, x281_1941, x281_1942, x281_1945, x281_1947, x281_1948, x281_1951, x281_1953, x281_1958, x281_1960, x281_1963, x281_1965, x281_1966, x281_1967, x281_1969, x281_1970, x281_1995, gk_some, pk_some, qk_some, bnd_v, bnd_n, kl_int, kl_ref, kl_null, kl_un, Nat.reduceAdd, if_true, if_false, ew, em, et, v1, v2, q]
theorem z35 {k : Int32} {b : UInt32} (ew : rcal 272 [.ref 32, .ref 185] H = some (.inl (some (.int k)), H1)) (em : rcal 222 [.ref 172] H1 = some (.inl (some (.float b)), H2)) (et : rcal 149 [.ref 172] H2 = some (.inl (some (.int k)), H2)) (v1 : recv H1 172 5 = true) (v2 : recv H2 172 5 = true) (ho : k = 0 → ald H2 104 185 0 = some (.double (FP.f2d b)) ∧ Op.cmpValue (FP.dcmp (FP.f2d b) (FP.f2d b)) .l = 0 ∧ FP.f2d b &&& 0x7fffffffffffffff ≤ 0x7ff0000000000000) (l6 l7 l8 : Value) : ∃ x y z, rn 281 1998 [.ref 0, .ref 32, .ref 172, .ref 184, .ref 185, .int (I i), l6, l7, l8] [] H = rn 281 2471 [.ref 0, .ref 32, .ref 172, .ref 184, .ref 185, .int (I i), x, y, z] [] H2 := by
  refine ⟨.int k, .float b, l8, ?_⟩
  by_cases q : k = 0
  · obtain ⟨o, o2, o3⟩ := ho q
    rw [q] at ew et ⊢
    simp only [x281_1998, x281_1999, x281_2001, x281_2004, x281_2006, x281_2007, x281_2010, x281_2012, x281_2013, x281_2016, x281_2018, x281_2023, x281_2025, x281_2028, x281_2030, x281_2031, x281_2032, x281_2034 (h := o3), x281_2035, x281_2036, x281_2061, gk_some, pk_some, qk_some, bnd_v, bnd_n, kl_int, kl_ref, kl_null, kl_un, Nat.reduceAdd, if_true, if_false, ew, em, et, v1, v2, o, o2]
  · simp only [x281_1998, x281_1999, x281_2001, x281_2004, x281_2006, x281_2007, x281_2010, x281_2012, x281_2013, x281_2016, x281_2018, x281_2023, x281_2025, x281_2028, x281_2030, x281_2031, x281_2032, x281_2035, x281_2036, x281_2061, gk_some, pk_some, qk_some, bnd_v, bnd_n, kl_int, kl_ref, kl_null, kl_un, Nat.reduceAdd, if_true, if_false, ew, em, et, v1, v2, q]
end CASEF
section FIND
variable {xs : List Int32} {h h1 : PH} {r1 : Nat × Nat × Nat} {c s : Nat} {L Sv : LN} {Hs : Nat → LN} {nx ct : Nat} {sv er fa : Int32} {T : Nat → Int32} {n m : Nat} {f : Nat → Int32} {g : Nat → Int32} {A : Nat → Nat → Int32}
theorem fin_d (C1 : CPr xs h1 r1 c s L Sv Hs nx ct sv er fa T n m f) (kp : Kp h h1) (M0 : mput h 172 g A = h) (O0 : OUTs h) (v : UInt64) : CPr xs (pu h1 185 (104, [.double v])) r1 c s L Sv Hs nx ct sv er fa T n m f ∧ mput (pu h1 185 (104, [.double v])) 172 g A = pu h1 185 (104, [.double v]) ∧ (∃ o, h1 185 = some (104, [.double o])) ∧ ∀ g' A', CPr xs (mput (pu h1 185 (104, [.double v])) 172 g' A') r1 c s L Sv Hs nx ct sv er fa T n m f ∧ OUTs (mput (pu h1 185 (104, [.double v])) 172 g' A') ∧ ald (mput (pu h1 185 (104, [.double v])) 172 g' A', r1) 104 185 0 = some (.double v) := by
  obtain ⟨⟨o, o1⟩, d, d1⟩ := O0
  have p185 : pu h1 185 (104, [.double v]) 185 = some (104, [.double v]) := by simp [pu]
  have p184 : pu h1 185 (104, [.double v]) 184 = some (103, [.long o]) := by
    have : (184 : Nat) ≠ 185 := by decide
    simp only [pu, if_neg this]
    rw [kp 184 (by decide) (by decide)]; exact o1
  have m185 : ∀ g' A', mput (pu h1 185 (104, [.double v])) 172 g' A' 185 = some (104, [.double v]) := fun g' A' => by
    rw [mput_o _ _ _ _ (Or.inr (by decide))]; exact p185
  have C2 : CPr xs (pu h1 185 (104, [.double v])) r1 c s L Sv Hs nx ct sv er fa T n m f := CPr_frame C1 (fun b hb => by
    have : b ≠ 185 := by omega
    simp [pu, this])
  refine ⟨C2, MP_frame M0 (fun b b1 b2 => ?_), ⟨d, by rw [kp 185 (by decide) (by decide)]; exact d1⟩, fun g' A' => ⟨CPr_frame C2 (fun b hb => mput_o _ _ _ _ (by omega)), ⟨⟨o, ?_⟩, v, m185 g' A'⟩, oRd (m185 g' A') r1⟩⟩
  · have : b ≠ 185 := by omega
    simp only [pu, if_neg this]
    exact kp b b1 (by omega)
  · rw [mput_o _ _ _ _ (Or.inr (by decide))]; exact p184
end FIND
section STEPF
variable {xs : List Int32} {t i : Nat} {h : PH} {r : Nat × Nat × Nat}
theorem qd {c s : Nat} {L Sv : LN} {Hs : Nat → LN} {nx ct : Nat} {sv er fa : Int32} {n m : Nat} {g g' : Nat → Int32} {A : Nat → Nat → Int32} (C : CPr xs h r c s L Sv Hs nx ct sv er fa (A 6) n m (A 11)) (M0 : mput h 172 g A = h) (O0 : OUTs h) (G : GRm L Sv Hs nx ct sv er fa n m g A (60 * ((t : Int) - n)) ((t : Int) - n)) (hn : n ≤ t) (hc : c ≤ 1000 + t) (hs : s ≤ 100000 + 6 * t) (ht : t ≤ 511) (v : UInt64) (eg : ∀ k, k ≠ 9 → k ≠ 13 → g' k = g k) : GR xs (t + 1) (mput (pu h 185 (104, [.double v])) 172 g' A, r) := by
  obtain ⟨C2, M2, -, fi⟩ := fin_d C (Kp_rf h) M0 O0 v
  obtain ⟨C3, O3, -⟩ := fi g' A
  exact ⟨c, s, L, Sv, Hs, nx, ct, sv, er, fa, n, m, g', A, C3, MP_self _ _ _, O3, GRm_q (GRm_up G (by push_cast; omega) (by push_cast; omega) (by push_cast; omega)) eg (fun _ _ => rfl) (fun _ _ _ _ => rfl), by omega, by omega, by omega⟩
theorem st34 (nd : ndK) (R : GR xs t (h, r)) (ht : t ≤ 511) (l6 l7 l8 : Value) : STP xs t i 1933 l6 l7 l8 (h, r) := by
  obtain ⟨c, s, L, Sv, Hs, nx, ct, sv, er, fa, n, m, g, A, C, M0, O0, G, hn, hc, hs⟩ := R
  have hM := G.1
  have hL := G.2.1
  obtain ⟨n0, hn0, h70⟩ := Nn hL
  have K : QK h 33 55 L C.2.1.choose := AK_QK C.2.1.choose_spec hn0 h70
  by_cases hv : 0 < L.1 8
  · have h8 : ¬ L.1 8 = 0 := fun q => by rw [q] at hv; exact absurd hv (by decide)
    obtain ⟨n1, n2⟩ := nd (L.1 10) (L.1 8) h8
    have e := q131 r K hv (by rw [l2d_i2d]; exact n1)
    rw [l2d_i2d] at e
    have em' := fun h' r' => u221 h' g A r' (p := 172) (by decide) hM h8 n1
    generalize FP.ddiv (FP.i2d (L.1 10)) (FP.i2d (L.1 8)) = v at *
    obtain ⟨C2, M2, ⟨oo, ho⟩, fi⟩ := fin_d C (Kp_rf h) M0 O0 v
    have ew := w271 (CPr_rv C r) e ho
    have em := em' (pu h 185 (104, [.double v])) r
    rw [M2] at em
    have rv1 := rvM (pu h 185 (104, [.double v])) 172 g A r
    rw [M2] at rv1
    have et := m149 (pu h 185 (104, [.double v])) (up g 9 0) A r (p := 172)
    rw [up_eq] at et
    have rv2 := rvM (pu h 185 (104, [.double v])) 172 (up g 9 0) A r
    obtain ⟨x, y, z, ez⟩ := z34 (i := i) ew em et rv1 rv2 (fun _ => ⟨(fi _ _).2.2, n2⟩) l6 l7 l8
    exact ⟨x, y, z, _, ez, qd C M0 O0 G hn hc hs ht v (fun k k9 _ => up_ne _ _ k9)⟩
  · have e := q131n r K hv
    have M2 := (fin_e C (Kp_rf h) M0 O0).1
    have ew := w271_1 (CPr_rv C r) e
    have em := u221n h g A (hsx (h, r)).2 (p := 172) (by decide) hM (fin_0 hL hv)
    rw [M2] at em
    have rv1 := rvM h 172 g A (hsx (h, r)).2
    rw [M2] at rv1
    have et := m149 h (up g 9 1) A (hsx (h, r)).2 (p := 172)
    rw [up_eq] at et
    have rv2 := rvM h 172 (up g 9 1) A (hsx (h, r)).2
    obtain ⟨x, y, z, ez⟩ := z34 (i := i) ew em et rv1 rv2 (fun q => absurd q (by decide)) l6 l7 l8
    exact ⟨x, y, z, _, ez, qe C M0 O0 G hn hc hs ht C (Kp_rf h) (fun k k9 _ => up_ne _ _ k9) (fun _ _ => rfl) (fun _ _ _ _ => rfl)⟩
theorem st35 (nf : nfK) (R : GR xs t (h, r)) (ht : t ≤ 511) (l6 l7 l8 : Value) : STP xs t i 1998 l6 l7 l8 (h, r) := by
  obtain ⟨c, s, L, Sv, Hs, nx, ct, sv, er, fa, n, m, g, A, C, M0, O0, G, hn, hc, hs⟩ := R
  have hM := G.1
  have hL := G.2.1
  obtain ⟨n0, hn0, h70⟩ := Nn hL
  have K : QK h 33 55 L C.2.1.choose := AK_QK C.2.1.choose_spec hn0 h70
  by_cases hv : 0 < L.1 8
  · have h8 : ¬ L.1 8 = 0 := fun q => by rw [q] at hv; exact absurd hv (by decide)
    obtain ⟨n1, n2, n3⟩ := nf (L.1 12) (L.1 8) h8
    have e := q132 r K hv n1
    have em' := fun h' r' => u222 h' g A r' (p := 172) (by decide) hM h8 n1
    generalize FP.fdiv (FP.i2f (L.1 12)) (FP.i2f (L.1 8)) = v at *
    obtain ⟨C2, M2, ⟨oo, ho⟩, fi⟩ := fin_d C (Kp_rf h) M0 O0 (FP.f2d v)
    have ew := w272 (CPr_rv C r) n2 e ho
    have em := em' (pu h 185 (104, [.double (FP.f2d v)])) r
    rw [M2] at em
    have rv1 := rvM (pu h 185 (104, [.double (FP.f2d v)])) 172 g A r
    rw [M2] at rv1
    have et := m149 (pu h 185 (104, [.double (FP.f2d v)])) (up g 9 0) A r (p := 172)
    rw [up_eq] at et
    have rv2 := rvM (pu h 185 (104, [.double (FP.f2d v)])) 172 (up g 9 0) A r
    obtain ⟨x, y, z, ez⟩ := z35 (i := i) ew em et rv1 rv2 (fun _ => ⟨(fi _ _).2.2, n3, n2⟩) l6 l7 l8
    exact ⟨x, y, z, _, ez, qd C M0 O0 G hn hc hs ht (FP.f2d v) (fun k k9 _ => up_ne _ _ k9)⟩
  · have e := q132n r K hv
    have M2 := (fin_e C (Kp_rf h) M0 O0).1
    have ew := w272_1 (CPr_rv C r) e
    have em := u222n h g A (hsx (h, r)).2 (p := 172) (by decide) hM (fin_0 hL hv)
    rw [M2] at em
    have rv1 := rvM h 172 g A (hsx (h, r)).2
    rw [M2] at rv1
    have et := m149 h (up g 9 1) A (hsx (h, r)).2 (p := 172)
    rw [up_eq] at et
    have rv2 := rvM h 172 (up g 9 1) A (hsx (h, r)).2
    obtain ⟨x, y, z, ez⟩ := z35 (i := i) ew em et rv1 rv2 (fun q => absurd q (by decide)) l6 l7 l8
    exact ⟨x, y, z, _, ez, qe C M0 O0 G hn hc hs ht C (Kp_rf h) (fun k k9 _ => up_ne _ _ k9) (fun _ _ => rfl) (fun _ _ _ _ => rfl)⟩
end STEPF
