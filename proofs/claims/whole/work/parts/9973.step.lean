/-! the law's calls that ask, both sides -/
def STP (xs : List Int32) (t i P : Nat) (l6 l7 l8 : Value) (H : HS) : Prop := ∃ x y z H2, rn 281 P [.ref 0, .ref 32, .ref 172, .ref 184, .ref 185, .int (I i), l6, l7, l8] [] H = rn 281 2471 [.ref 0, .ref 32, .ref 172, .ref 184, .ref 185, .int (I i), x, y, z] [] H2 ∧ GR xs (t + 1) H2
theorem b2i_01 (b : Bool) : b2i b = 0 ∨ b2i b = 1 := by cases b <;> simp [b2i]
theorem bet_ps {L : LN} {X N : Int} (hL : FL X N L) {v u : Int32} (hv : isSt L v) (hu : isSt L u) : betw L.2.2.1 v.toNatClampNeg u.toNatClampNeg = psD L.2.2.2.1 v.toNatClampNeg u.toNatClampNeg := by
  obtain ⟨n, G, nf, wb, pk, -⟩ := id hL
  obtain ⟨n1, k, e1, b1, -, hk, ek⟩ := St_k hL hv
  obtain ⟨n2, j, e2, b2, -, hj, ej⟩ := St_k hL hu
  have hn : L.1 0 = I n := G.2.1.1
  have h7 : n ≤ 7 := G.2.1.2
  have a1 : n1 = n := (I_inj (by omega) (by omega)).mp (e1.symm.trans hn)
  have a2 : n2 = n := (I_inj (by omega) (by omega)).mp (e2.symm.trans hn)
  rw [ek, ej]
  exact psK_eq h7 G.2.2.2.1 pk (by omega) (by omega)
section STEP
variable {xs : List Int32} {t i : Nat} {h : PH} {r : Nat × Nat × Nat}
section ASM
variable {h1 : PH} {c s : Nat} {L Sv : LN} {Hs : Nat → LN} {nx ct : Nat} {sv er fa : Int32} {n m : Nat} {g g' : Nat → Int32} {A A' : Nat → Nat → Int32}
theorem qv (C : CPr xs h r c s L Sv Hs nx ct sv er fa (A 6) n m (A 11)) (M0 : mput h 172 g A = h) (O0 : OUTs h) (G : GRm L Sv Hs nx ct sv er fa n m g A (60 * ((t : Int) - n)) ((t : Int) - n)) (hn : n ≤ t) (hc : c ≤ 1000 + t) (hs : s ≤ 100000 + 6 * t) (ht : t ≤ 511) (C1 : CPr xs h1 r c s L Sv Hs nx ct sv er fa (A 6) n m (A 11)) (kp : Kp h h1) (v : Int64) (eg : ∀ k, k ≠ 9 → k ≠ 13 → g' k = g k) (e1 : ∀ x, x < 76 → A' 1 x = A 1 x) (eA : ∀ k, k ≠ 1 → k ≠ 3 → k ≠ 7 → A' k = A k) : GR xs (t + 1) (mput (pu h1 184 (103, [.long v])) 172 g' A', r) := by
  obtain ⟨C2, M2, -, fi⟩ := fin_v C1 kp M0 O0 v
  obtain ⟨C3, O3, -⟩ := fi g' A'
  refine ⟨c, s, L, Sv, Hs, nx, ct, sv, er, fa, n, m, g', A', ?_, MP_self _ _ _, O3, GRm_q (GRm_up G (by push_cast; omega) (by push_cast; omega) (by push_cast; omega)) eg e1 eA, by omega, by omega, by omega⟩
  rw [eA 6 (by decide) (by decide) (by decide), eA 11 (by decide) (by decide) (by decide)]
  exact C3
theorem qn (C : CPr xs h r c s L Sv Hs nx ct sv er fa (A 6) n m (A 11)) (M0 : mput h 172 g A = h) (O0 : OUTs h) (G : GRm L Sv Hs nx ct sv er fa n m g A (60 * ((t : Int) - n)) ((t : Int) - n)) (hn : n ≤ t) (hc : c ≤ 1000 + t) (hs : s ≤ 100000 + 6 * t) (ht : t ≤ 511) (C1 : CPr xs h1 r c s L Sv Hs nx ct sv er fa (A 6) n m (A 11)) (kp : Kp h h1) (eg : ∀ k, k ≠ 9 → k ≠ 13 → g' k = g k) (e1 : ∀ x, x < 76 → A' 1 x = A 1 x) (eA : ∀ k, k ≠ 1 → k ≠ 3 → k ≠ 7 → A' k = A k) : GR xs (t + 1) (mput h1 172 g' A', r) := by
  obtain ⟨M2, O2, fi⟩ := fin_e C1 kp M0 O0
  obtain ⟨C3, O3⟩ := fi g' A'
  refine ⟨c, s, L, Sv, Hs, nx, ct, sv, er, fa, n, m, g', A', ?_, MP_self _ _ _, O3, GRm_q (GRm_up G (by push_cast; omega) (by push_cast; omega) (by push_cast; omega)) eg e1 eA, by omega, by omega, by omega⟩
  rw [eA 6 (by decide) (by decide) (by decide), eA 11 (by decide) (by decide) (by decide)]
  exact C3
theorem qe (C : CPr xs h r c s L Sv Hs nx ct sv er fa (A 6) n m (A 11)) (M0 : mput h 172 g A = h) (O0 : OUTs h) (G : GRm L Sv Hs nx ct sv er fa n m g A (60 * ((t : Int) - n)) ((t : Int) - n)) (hn : n ≤ t) (hc : c ≤ 1000 + t) (hs : s ≤ 100000 + 6 * t) (ht : t ≤ 511) (C1 : CPr xs h1 r c s L Sv Hs nx ct sv er fa (A 6) n m (A 11)) (kp : Kp h h1) (eg : ∀ k, k ≠ 9 → k ≠ 13 → g' k = g k) (e1 : ∀ x, x < 76 → A' 1 x = A 1 x) (eA : ∀ k, k ≠ 1 → k ≠ 3 → k ≠ 7 → A' k = A k) : GR xs (t + 1) (mput h1 172 g' A', (hsx (h1, r)).2) := by
  obtain ⟨M2, O2, fi⟩ := fin_e C1 kp M0 O0
  obtain ⟨C3, O3⟩ := fi g' A'
  refine ⟨c + 1, s + 6, L, Sv, Hs, nx, ct, sv, er, fa, n, m, g', A', ?_, MP_self _ _ _, O3, GRm_q (GRm_up G (by push_cast; omega) (by push_cast; omega) (by push_cast; omega)) eg e1 eA, by omega, by omega, by omega⟩
  rw [eA 6 (by decide) (by decide) (by decide), eA 11 (by decide) (by decide) (by decide)]
  exact CPr_r C3
end ASM
theorem st8 (R : GR xs t (h, r)) (ht : t ≤ 511) (hl : xs.length ≤ 2048) {a0 : Int32} (s1 : xs[i + 1]? = some a0) (l6 l7 l8 : Value) : STP xs t i 701 l6 l7 l8 (h, r) := by
  obtain ⟨c, s, L, Sv, Hs, nx, ct, sv, er, fa, n, m, g, A, C, M0, O0, G, hn, hc, hs⟩ := R
  have hM := G.1
  have hL := G.2.1
  obtain ⟨n0, hn0, h70⟩ := Nn hL
  have K : QK h 33 55 L C.2.1.choose := AK_QK C.2.1.choose_spec hn0 h70
  by_cases hv : isSt L a0
  · skip
    have e := q101 r K hv
    obtain ⟨C2, M2, ⟨oo, ho⟩, fi⟩ := fin_v C (Kp_rf h) M0 O0 (L.2.1 a0.toNatClampNeg : Int32).toInt64
    have ew := w251 (CPr_rv C r) a0  e ho
    have em := u191 (pu h 184 (103, [.long (L.2.1 a0.toNatClampNeg : Int32).toInt64])) g A r (p := 172) (by decide) hM hL hv
    rw [M2] at em
    have rv1 := rvM (pu h 184 (103, [.long (L.2.1 a0.toNatClampNeg : Int32).toInt64])) 172 g A r
    rw [M2] at rv1
    have et := m149 (pu h 184 (103, [.long (L.2.1 a0.toNatClampNeg : Int32).toInt64])) (up g 9 0) A r (p := 172)
    rw [up_eq] at et
    have rv2 := rvM (pu h 184 (103, [.long (L.2.1 a0.toNatClampNeg : Int32).toInt64])) 172 (up g 9 0) A r
    have u1 := sc_rd C hl s1 r
    have t1 := sc_rd C2 hl s1 r
    obtain ⟨x, y, z, ez⟩ := z8 (i := i)  u1 t1 ew em et rv1 rv2 (fun _ => (fi _ _).2.2) l6 l7 l8
    exact ⟨x, y, z, _, ez, qv C M0 O0 G hn hc hs ht C (Kp_rf h) _ (fun k k9 _ => up_ne _ _ k9) (fun _ _ => rfl) (fun _ _ _ _ => rfl)⟩
  · skip
    have e := q101n r K hv
    have M2 := (fin_e C (Kp_rf h) M0 O0).1
    have ew := w251_1 (CPr_rv C r) a0 e
    have em := u191n h g A (hsx (h, r)).2 (p := 172) (by decide) hM hL hv
    rw [M2] at em
    have rv1 := rvM h 172 g A (hsx (h, r)).2
    rw [M2] at rv1
    have et := m149 h (up g 9 1) A (hsx (h, r)).2 (p := 172)
    rw [up_eq] at et
    have rv2 := rvM h 172 (up g 9 1) A (hsx (h, r)).2
    have u1 := sc_rd C hl s1 r
    have t1 := sc_rd C hl s1 (hsx (h, r)).2
    obtain ⟨x, y, z, ez⟩ := z8 (i := i)  u1 t1 ew em et rv1 rv2 (fun q => absurd q (by decide)) l6 l7 l8
    exact ⟨x, y, z, _, ez, qe C M0 O0 G hn hc hs ht C (Kp_rf h) (fun k k9 _ => up_ne _ _ k9) (fun _ _ => rfl) (fun _ _ _ _ => rfl)⟩
theorem st9 (R : GR xs t (h, r)) (ht : t ≤ 511) (hl : xs.length ≤ 2048) {a0 : Int32} (s1 : xs[i + 1]? = some a0) (l6 l7 l8 : Value) : STP xs t i 757 l6 l7 l8 (h, r) := by
  obtain ⟨c, s, L, Sv, Hs, nx, ct, sv, er, fa, n, m, g, A, C, M0, O0, G, hn, hc, hs⟩ := R
  have hM := G.1
  have hL := G.2.1
  obtain ⟨n0, hn0, h70⟩ := Nn hL
  have K : QK h 33 55 L C.2.1.choose := AK_QK C.2.1.choose_spec hn0 h70
  by_cases hv : isSt L a0
  · skip
    have e := q102 r K hv
    obtain ⟨C2, M2, ⟨oo, ho⟩, fi⟩ := fin_v C (Kp_rf h) M0 O0 (freN L.2.1 L.2.2.2.2 a0 : Int32).toInt64
    have ew := w252 (CPr_rv C r) a0  e ho
    have em := u192 (pu h 184 (103, [.long (freN L.2.1 L.2.2.2.2 a0 : Int32).toInt64])) g A r (p := 172) (by decide) hM hL hv
    rw [M2] at em
    have rv1 := rvM (pu h 184 (103, [.long (freN L.2.1 L.2.2.2.2 a0 : Int32).toInt64])) 172 g A r
    rw [M2] at rv1
    have et := m149 (pu h 184 (103, [.long (freN L.2.1 L.2.2.2.2 a0 : Int32).toInt64])) (up g 9 0) A r (p := 172)
    rw [up_eq] at et
    have rv2 := rvM (pu h 184 (103, [.long (freN L.2.1 L.2.2.2.2 a0 : Int32).toInt64])) 172 (up g 9 0) A r
    have u1 := sc_rd C hl s1 r
    have t1 := sc_rd C2 hl s1 r
    obtain ⟨x, y, z, ez⟩ := z9 (i := i)  u1 t1 ew em et rv1 rv2 (fun _ => (fi _ _).2.2) l6 l7 l8
    exact ⟨x, y, z, _, ez, qv C M0 O0 G hn hc hs ht C (Kp_rf h) _ (fun k k9 _ => up_ne _ _ k9) (fun _ _ => rfl) (fun _ _ _ _ => rfl)⟩
  · skip
    have e := q102n r K hv
    have M2 := (fin_e C (Kp_rf h) M0 O0).1
    have ew := w252_1 (CPr_rv C r) a0 e
    have em := u192n h g A (hsx (h, r)).2 (p := 172) (by decide) hM hL hv
    rw [M2] at em
    have rv1 := rvM h 172 g A (hsx (h, r)).2
    rw [M2] at rv1
    have et := m149 h (up g 9 1) A (hsx (h, r)).2 (p := 172)
    rw [up_eq] at et
    have rv2 := rvM h 172 (up g 9 1) A (hsx (h, r)).2
    have u1 := sc_rd C hl s1 r
    have t1 := sc_rd C hl s1 (hsx (h, r)).2
    obtain ⟨x, y, z, ez⟩ := z9 (i := i)  u1 t1 ew em et rv1 rv2 (fun q => absurd q (by decide)) l6 l7 l8
    exact ⟨x, y, z, _, ez, qe C M0 O0 G hn hc hs ht C (Kp_rf h) (fun k k9 _ => up_ne _ _ k9) (fun _ _ => rfl) (fun _ _ _ _ => rfl)⟩
theorem st10 (R : GR xs t (h, r)) (ht : t ≤ 511) (hl : xs.length ≤ 2048) {a0 : Int32} (s1 : xs[i + 1]? = some a0) (l6 l7 l8 : Value) : STP xs t i 813 l6 l7 l8 (h, r) := by
  obtain ⟨c, s, L, Sv, Hs, nx, ct, sv, er, fa, n, m, g, A, C, M0, O0, G, hn, hc, hs⟩ := R
  have hM := G.1
  have hL := G.2.1
  obtain ⟨n0, hn0, h70⟩ := Nn hL
  have K : QK h 33 55 L C.2.1.choose := AK_QK C.2.1.choose_spec hn0 h70
  by_cases hv : isSt L a0
  · skip
    have e := q103 r K hv
    obtain ⟨C2, M2, ⟨oo, ho⟩, fi⟩ := fin_v C (Kp_rf h) M0 O0 (I (L.2.2.2.2.countP (staP a0)) : Int32).toInt64
    have ew := w253 (CPr_rv C r) a0  e ho
    have em := u193 (pu h 184 (103, [.long (I (L.2.2.2.2.countP (staP a0)) : Int32).toInt64])) g A r (p := 172) (by decide) hM hL hv
    rw [M2] at em
    have rv1 := rvM (pu h 184 (103, [.long (I (L.2.2.2.2.countP (staP a0)) : Int32).toInt64])) 172 g A r
    rw [M2] at rv1
    have et := m149 (pu h 184 (103, [.long (I (L.2.2.2.2.countP (staP a0)) : Int32).toInt64])) (up g 9 0) A r (p := 172)
    rw [up_eq] at et
    have rv2 := rvM (pu h 184 (103, [.long (I (L.2.2.2.2.countP (staP a0)) : Int32).toInt64])) 172 (up g 9 0) A r
    have u1 := sc_rd C hl s1 r
    have t1 := sc_rd C2 hl s1 r
    obtain ⟨x, y, z, ez⟩ := z10 (i := i)  u1 t1 ew em et rv1 rv2 (fun _ => (fi _ _).2.2) l6 l7 l8
    exact ⟨x, y, z, _, ez, qv C M0 O0 G hn hc hs ht C (Kp_rf h) _ (fun k k9 _ => up_ne _ _ k9) (fun _ _ => rfl) (fun _ _ _ _ => rfl)⟩
  · skip
    have e := q103n r K hv
    have M2 := (fin_e C (Kp_rf h) M0 O0).1
    have ew := w253_1 (CPr_rv C r) a0 e
    have em := u193n h g A (hsx (h, r)).2 (p := 172) (by decide) hM hL hv
    rw [M2] at em
    have rv1 := rvM h 172 g A (hsx (h, r)).2
    rw [M2] at rv1
    have et := m149 h (up g 9 1) A (hsx (h, r)).2 (p := 172)
    rw [up_eq] at et
    have rv2 := rvM h 172 (up g 9 1) A (hsx (h, r)).2
    have u1 := sc_rd C hl s1 r
    have t1 := sc_rd C hl s1 (hsx (h, r)).2
    obtain ⟨x, y, z, ez⟩ := z10 (i := i)  u1 t1 ew em et rv1 rv2 (fun q => absurd q (by decide)) l6 l7 l8
    exact ⟨x, y, z, _, ez, qe C M0 O0 G hn hc hs ht C (Kp_rf h) (fun k k9 _ => up_ne _ _ k9) (fun _ _ => rfl) (fun _ _ _ _ => rfl)⟩
theorem st11 (R : GR xs t (h, r)) (ht : t ≤ 511) (hl : xs.length ≤ 2048) {a0 : Int32} (s1 : xs[i + 1]? = some a0) (l6 l7 l8 : Value) : STP xs t i 869 l6 l7 l8 (h, r) := by
  obtain ⟨c, s, L, Sv, Hs, nx, ct, sv, er, fa, n, m, g, A, C, M0, O0, G, hn, hc, hs⟩ := R
  have hM := G.1
  have hL := G.2.1
  obtain ⟨n0, hn0, h70⟩ := Nn hL
  have K : QK h 33 55 L C.2.1.choose := AK_QK C.2.1.choose_spec hn0 h70
  by_cases hv : isSe L a0
  · skip
    have e := q104 r K hv
    obtain ⟨C2, M2, ⟨oo, ho⟩, fi⟩ := fin_v C (Kp_rf h) M0 O0 (L.2.2.1 a0.toNatClampNeg : Int32).toInt64
    have ew := w254 (CPr_rv C r) a0  e ho
    have em := u194 (pu h 184 (103, [.long (L.2.2.1 a0.toNatClampNeg : Int32).toInt64])) g A r (p := 172) (by decide) hM hL hv
    rw [M2] at em
    have rv1 := rvM (pu h 184 (103, [.long (L.2.2.1 a0.toNatClampNeg : Int32).toInt64])) 172 g A r
    rw [M2] at rv1
    have et := m149 (pu h 184 (103, [.long (L.2.2.1 a0.toNatClampNeg : Int32).toInt64])) (up g 9 0) A r (p := 172)
    rw [up_eq] at et
    have rv2 := rvM (pu h 184 (103, [.long (L.2.2.1 a0.toNatClampNeg : Int32).toInt64])) 172 (up g 9 0) A r
    have u1 := sc_rd C hl s1 r
    have t1 := sc_rd C2 hl s1 r
    obtain ⟨x, y, z, ez⟩ := z11 (i := i)  u1 t1 ew em et rv1 rv2 (fun _ => (fi _ _).2.2) l6 l7 l8
    exact ⟨x, y, z, _, ez, qv C M0 O0 G hn hc hs ht C (Kp_rf h) _ (fun k k9 _ => up_ne _ _ k9) (fun _ _ => rfl) (fun _ _ _ _ => rfl)⟩
  · skip
    have e := q104n r K hv
    have M2 := (fin_e C (Kp_rf h) M0 O0).1
    have ew := w254_1 (CPr_rv C r) a0 e
    have em := u194n h g A (hsx (h, r)).2 (p := 172) (by decide) hM hL hv
    rw [M2] at em
    have rv1 := rvM h 172 g A (hsx (h, r)).2
    rw [M2] at rv1
    have et := m149 h (up g 9 1) A (hsx (h, r)).2 (p := 172)
    rw [up_eq] at et
    have rv2 := rvM h 172 (up g 9 1) A (hsx (h, r)).2
    have u1 := sc_rd C hl s1 r
    have t1 := sc_rd C hl s1 (hsx (h, r)).2
    obtain ⟨x, y, z, ez⟩ := z11 (i := i)  u1 t1 ew em et rv1 rv2 (fun q => absurd q (by decide)) l6 l7 l8
    exact ⟨x, y, z, _, ez, qe C M0 O0 G hn hc hs ht C (Kp_rf h) (fun k k9 _ => up_ne _ _ k9) (fun _ _ => rfl) (fun _ _ _ _ => rfl)⟩
theorem st12 (R : GR xs t (h, r)) (ht : t ≤ 511) (hl : xs.length ≤ 2048) {a0 : Int32} (s1 : xs[i + 1]? = some a0) (l6 l7 l8 : Value) : STP xs t i 925 l6 l7 l8 (h, r) := by
  obtain ⟨c, s, L, Sv, Hs, nx, ct, sv, er, fa, n, m, g, A, C, M0, O0, G, hn, hc, hs⟩ := R
  have hM := G.1
  have hL := G.2.1
  obtain ⟨n0, hn0, h70⟩ := Nn hL
  have K : QK h 33 55 L C.2.1.choose := AK_QK C.2.1.choose_spec hn0 h70
  by_cases hv : isSe L a0
  · skip
    have e := q105 r K hv
    obtain ⟨C2, M2, ⟨oo, ho⟩, fi⟩ := fin_v C (Kp_rf h) M0 O0 (b2i (L.2.2.2.2.find? (holP a0)).isNone : Int32).toInt64
    have ew := w255 (CPr_rv C r) a0 (b2i_01 _) e ho
    have em := u195 (pu h 184 (103, [.long (b2i (L.2.2.2.2.find? (holP a0)).isNone : Int32).toInt64])) g A r (p := 172) (by decide) hM hL hv
    rw [M2] at em
    have rv1 := rvM (pu h 184 (103, [.long (b2i (L.2.2.2.2.find? (holP a0)).isNone : Int32).toInt64])) 172 g A r
    rw [M2] at rv1
    have et := m149 (pu h 184 (103, [.long (b2i (L.2.2.2.2.find? (holP a0)).isNone : Int32).toInt64])) (up g 9 0) A r (p := 172)
    rw [up_eq] at et
    have rv2 := rvM (pu h 184 (103, [.long (b2i (L.2.2.2.2.find? (holP a0)).isNone : Int32).toInt64])) 172 (up g 9 0) A r
    have u1 := sc_rd C hl s1 r
    have t1 := sc_rd C2 hl s1 r
    obtain ⟨x, y, z, ez⟩ := z12 (i := i) (b2i_01 _) u1 t1 ew em et rv1 rv2 (fun _ => (fi _ _).2.2) l6 l7 l8
    exact ⟨x, y, z, _, ez, qv C M0 O0 G hn hc hs ht C (Kp_rf h) _ (fun k k9 _ => up_ne _ _ k9) (fun _ _ => rfl) (fun _ _ _ _ => rfl)⟩
  · skip
    have e := q105n r K hv
    have M2 := (fin_e C (Kp_rf h) M0 O0).1
    have ew := w255_1 (CPr_rv C r) a0 e
    have em := u195n h g A (hsx (h, r)).2 (p := 172) (by decide) hM hL hv
    rw [M2] at em
    have rv1 := rvM h 172 g A (hsx (h, r)).2
    rw [M2] at rv1
    have et := m149 h (up g 9 1) A (hsx (h, r)).2 (p := 172)
    rw [up_eq] at et
    have rv2 := rvM h 172 (up g 9 1) A (hsx (h, r)).2
    have u1 := sc_rd C hl s1 r
    have t1 := sc_rd C hl s1 (hsx (h, r)).2
    obtain ⟨x, y, z, ez⟩ := z12 (i := i) (Or.inl rfl) u1 t1 ew em et rv1 rv2 (fun q => absurd q (by decide)) l6 l7 l8
    exact ⟨x, y, z, _, ez, qe C M0 O0 G hn hc hs ht C (Kp_rf h) (fun k k9 _ => up_ne _ _ k9) (fun _ _ => rfl) (fun _ _ _ _ => rfl)⟩
theorem st13 (R : GR xs t (h, r)) (ht : t ≤ 511) (hl : xs.length ≤ 2048) {a0 : Int32} (s1 : xs[i + 1]? = some a0) (l6 l7 l8 : Value) : STP xs t i 988 l6 l7 l8 (h, r) := by
  obtain ⟨c, s, L, Sv, Hs, nx, ct, sv, er, fa, n, m, g, A, C, M0, O0, G, hn, hc, hs⟩ := R
  have hM := G.1
  have hL := G.2.1
  obtain ⟨n0, hn0, h70⟩ := Nn hL
  have K : QK h 33 55 L C.2.1.choose := AK_QK C.2.1.choose_spec hn0 h70
  by_cases hv : isSe L a0
  · have e0 := q106 r K hv
    cases hf : L.2.2.2.2.find? (holP a0) with
    | none =>
      rw [hf] at e0
      have e := e0
      have M2 := (fin_e C (Kp_rf h) M0 O0).1
      have ew := w256_2 (CPr_rv C r) a0 e
      have em := u196f h g A (hsx (h, r)).2 (p := 172) (by decide) hM hL hv hf
      rw [M2] at em
      have rv1 := rvM h 172 g A (hsx (h, r)).2
      rw [M2] at rv1
      have et := m149 h (up g 9 2) A (hsx (h, r)).2 (p := 172)
      rw [up_eq] at et
      have rv2 := rvM h 172 (up g 9 2) A (hsx (h, r)).2
      have u1 := sc_rd C hl s1 r
      have t1 := sc_rd C hl s1 (hsx (h, r)).2
      obtain ⟨x, y, z, ez⟩ := z13 (i := i)  u1 t1 ew em et rv1 rv2 (fun q => absurd q (by decide)) l6 l7 l8
      exact ⟨x, y, z, _, ez, qe C M0 O0 G hn hc hs ht C (Kp_rf h) (fun k k9 _ => up_ne _ _ k9) (fun _ _ => rfl) (fun _ _ _ _ => rfl)⟩
    | some q =>
      rw [hf] at e0
      have e := e0
      obtain ⟨C2, M2, ⟨oo, ho⟩, fi⟩ := fin_v C (Kp_rf h) M0 O0 (q.2.2 1 : Int32).toInt64
      have ew := w256 (CPr_rv C r) a0  e ho
      have em := u196 (pu h 184 (103, [.long (q.2.2 1 : Int32).toInt64])) g A r (p := 172) (by decide) hM hL hv hf
      rw [M2] at em
      have rv1 := rvM (pu h 184 (103, [.long (q.2.2 1 : Int32).toInt64])) 172 g A r
      rw [M2] at rv1
      have et := m149 (pu h 184 (103, [.long (q.2.2 1 : Int32).toInt64])) (up g 9 0) A r (p := 172)
      rw [up_eq] at et
      have rv2 := rvM (pu h 184 (103, [.long (q.2.2 1 : Int32).toInt64])) 172 (up g 9 0) A r
      have u1 := sc_rd C hl s1 r
      have t1 := sc_rd C2 hl s1 r
      obtain ⟨x, y, z, ez⟩ := z13 (i := i)  u1 t1 ew em et rv1 rv2 (fun _ => (fi _ _).2.2) l6 l7 l8
      exact ⟨x, y, z, _, ez, qv C M0 O0 G hn hc hs ht C (Kp_rf h) _ (fun k k9 _ => up_ne _ _ k9) (fun _ _ => rfl) (fun _ _ _ _ => rfl)⟩
  · skip
    have e := q106n r K hv
    have M2 := (fin_e C (Kp_rf h) M0 O0).1
    have ew := w256_1 (CPr_rv C r) a0 e
    have em := u196n h g A (hsx (h, r)).2 (p := 172) (by decide) hM hL hv
    rw [M2] at em
    have rv1 := rvM h 172 g A (hsx (h, r)).2
    rw [M2] at rv1
    have et := m149 h (up g 9 1) A (hsx (h, r)).2 (p := 172)
    rw [up_eq] at et
    have rv2 := rvM h 172 (up g 9 1) A (hsx (h, r)).2
    have u1 := sc_rd C hl s1 r
    have t1 := sc_rd C hl s1 (hsx (h, r)).2
    obtain ⟨x, y, z, ez⟩ := z13 (i := i)  u1 t1 ew em et rv1 rv2 (fun q => absurd q (by decide)) l6 l7 l8
    exact ⟨x, y, z, _, ez, qe C M0 O0 G hn hc hs ht C (Kp_rf h) (fun k k9 _ => up_ne _ _ k9) (fun _ _ => rfl) (fun _ _ _ _ => rfl)⟩
theorem st14 (R : GR xs t (h, r)) (ht : t ≤ 511) (hl : xs.length ≤ 2048) {a0 a1 : Int32} (s1 : xs[i + 1]? = some a0) (s2 : xs[i + 2]? = some a1) (l6 l7 l8 : Value) : STP xs t i 1044 l6 l7 l8 (h, r) := by
  obtain ⟨c, s, L, Sv, Hs, nx, ct, sv, er, fa, n, m, g, A, C, M0, O0, G, hn, hc, hs⟩ := R
  have hM := G.1
  have hL := G.2.1
  obtain ⟨n0, hn0, h70⟩ := Nn hL
  have K : QK h 33 55 L C.2.1.choose := AK_QK C.2.1.choose_spec hn0 h70
  by_cases hv : isSt L a0 ∧ isSt L a1
  · skip
    have e := q107 r K hv.1 hv.2
    obtain ⟨C2, M2, ⟨oo, ho⟩, fi⟩ := fin_v C (Kp_rf h) M0 O0 (betw L.2.2.1 a0.toNatClampNeg a1.toNatClampNeg : Int32).toInt64
    have ew := w257 (CPr_rv C r) a0 a1  e ho
    have em := u197 (pu h 184 (103, [.long (betw L.2.2.1 a0.toNatClampNeg a1.toNatClampNeg : Int32).toInt64])) g A r (p := 172) (by decide) hM hL hv.1 hv.2
    rw [M2] at em
    have rv1 := rvM (pu h 184 (103, [.long (betw L.2.2.1 a0.toNatClampNeg a1.toNatClampNeg : Int32).toInt64])) 172 g A r
    rw [M2] at rv1
    have et := m149 (pu h 184 (103, [.long (betw L.2.2.1 a0.toNatClampNeg a1.toNatClampNeg : Int32).toInt64])) (up g 9 0) A r (p := 172)
    rw [up_eq] at et
    have rv2 := rvM (pu h 184 (103, [.long (betw L.2.2.1 a0.toNatClampNeg a1.toNatClampNeg : Int32).toInt64])) 172 (up g 9 0) A r
    have u1 := sc_rd C hl s1 r
    have t1 := sc_rd C2 hl s1 r
    have u2 := sc_rd C hl s2 r
    have t2 := sc_rd C2 hl s2 r
    obtain ⟨x, y, z, ez⟩ := z14 (i := i)  u1 t1 u2 t2 ew em et rv1 rv2 (fun _ => (fi _ _).2.2) l6 l7 l8
    exact ⟨x, y, z, _, ez, qv C M0 O0 G hn hc hs ht C (Kp_rf h) _ (fun k k9 _ => up_ne _ _ k9) (fun _ _ => rfl) (fun _ _ _ _ => rfl)⟩
  · skip
    have e := q107n r K hv
    have M2 := (fin_e C (Kp_rf h) M0 O0).1
    have ew := w257_1 (CPr_rv C r) a0 a1 e
    have em := u197n h g A (hsx (h, r)).2 (p := 172) (by decide) hM hL hv
    rw [M2] at em
    have rv1 := rvM h 172 g A (hsx (h, r)).2
    rw [M2] at rv1
    have et := m149 h (up g 9 1) A (hsx (h, r)).2 (p := 172)
    rw [up_eq] at et
    have rv2 := rvM h 172 (up g 9 1) A (hsx (h, r)).2
    have u1 := sc_rd C hl s1 r
    have t1 := sc_rd C hl s1 (hsx (h, r)).2
    have u2 := sc_rd C hl s2 r
    have t2 := sc_rd C hl s2 (hsx (h, r)).2
    obtain ⟨x, y, z, ez⟩ := z14 (i := i)  u1 t1 u2 t2 ew em et rv1 rv2 (fun q => absurd q (by decide)) l6 l7 l8
    exact ⟨x, y, z, _, ez, qe C M0 O0 G hn hc hs ht C (Kp_rf h) (fun k k9 _ => up_ne _ _ k9) (fun _ _ => rfl) (fun _ _ _ _ => rfl)⟩
theorem st15 (R : GR xs t (h, r)) (ht : t ≤ 511) (hl : xs.length ≤ 2048) {a0 a1 : Int32} (s1 : xs[i + 1]? = some a0) (s2 : xs[i + 2]? = some a1) (l6 l7 l8 : Value) : STP xs t i 1112 l6 l7 l8 (h, r) := by
  obtain ⟨c, s, L, Sv, Hs, nx, ct, sv, er, fa, n, m, g, A, C, M0, O0, G, hn, hc, hs⟩ := R
  have hM := G.1
  have hL := G.2.1
  obtain ⟨n0, hn0, h70⟩ := Nn hL
  have K : QK h 33 55 L C.2.1.choose := AK_QK C.2.1.choose_spec hn0 h70
  by_cases hv : isSt L a0 ∧ isSt L a1
  · have e0 := q108 r K hv.1 hv.2
    rw [← bet_ps hL hv.1 hv.2] at e0
    have e := e0
    obtain ⟨C2, M2, ⟨oo, ho⟩, fi⟩ := fin_v C (Kp_rf h) M0 O0 (betw L.2.2.1 a0.toNatClampNeg a1.toNatClampNeg : Int32).toInt64
    have ew := w258 (CPr_rv C r) a0 a1  e ho
    have em := u198 (pu h 184 (103, [.long (betw L.2.2.1 a0.toNatClampNeg a1.toNatClampNeg : Int32).toInt64])) g A r (u197 (pu h 184 (103, [.long (betw L.2.2.1 a0.toNatClampNeg a1.toNatClampNeg : Int32).toInt64])) g A r (p := 172) (by decide) hM hL hv.1 hv.2)
    rw [M2] at em
    have rv1 := rvM (pu h 184 (103, [.long (betw L.2.2.1 a0.toNatClampNeg a1.toNatClampNeg : Int32).toInt64])) 172 g A r
    rw [M2] at rv1
    have et := m149 (pu h 184 (103, [.long (betw L.2.2.1 a0.toNatClampNeg a1.toNatClampNeg : Int32).toInt64])) (up g 9 0) A r (p := 172)
    rw [up_eq] at et
    have rv2 := rvM (pu h 184 (103, [.long (betw L.2.2.1 a0.toNatClampNeg a1.toNatClampNeg : Int32).toInt64])) 172 (up g 9 0) A r
    have u1 := sc_rd C hl s1 r
    have t1 := sc_rd C2 hl s1 r
    have u2 := sc_rd C hl s2 r
    have t2 := sc_rd C2 hl s2 r
    obtain ⟨x, y, z, ez⟩ := z15 (i := i)  u1 t1 u2 t2 ew em et rv1 rv2 (fun _ => (fi _ _).2.2) l6 l7 l8
    exact ⟨x, y, z, _, ez, qv C M0 O0 G hn hc hs ht C (Kp_rf h) _ (fun k k9 _ => up_ne _ _ k9) (fun _ _ => rfl) (fun _ _ _ _ => rfl)⟩
  · skip
    have e := q108n r K hv
    have M2 := (fin_e C (Kp_rf h) M0 O0).1
    have ew := w258_1 (CPr_rv C r) a0 a1 e
    have em := u198 h g A (hsx (h, r)).2 (u197n h g A (hsx (h, r)).2 (p := 172) (by decide) hM hL hv)
    rw [M2] at em
    have rv1 := rvM h 172 g A (hsx (h, r)).2
    rw [M2] at rv1
    have et := m149 h (up g 9 1) A (hsx (h, r)).2 (p := 172)
    rw [up_eq] at et
    have rv2 := rvM h 172 (up g 9 1) A (hsx (h, r)).2
    have u1 := sc_rd C hl s1 r
    have t1 := sc_rd C hl s1 (hsx (h, r)).2
    have u2 := sc_rd C hl s2 r
    have t2 := sc_rd C hl s2 (hsx (h, r)).2
    obtain ⟨x, y, z, ez⟩ := z15 (i := i)  u1 t1 u2 t2 ew em et rv1 rv2 (fun q => absurd q (by decide)) l6 l7 l8
    exact ⟨x, y, z, _, ez, qe C M0 O0 G hn hc hs ht C (Kp_rf h) (fun k k9 _ => up_ne _ _ k9) (fun _ _ => rfl) (fun _ _ _ _ => rfl)⟩
theorem st18 (R : GR xs t (h, r)) (ht : t ≤ 511) (hl : xs.length ≤ 2048) {a0 : Int32} (s1 : xs[i + 1]? = some a0) (l6 l7 l8 : Value) : STP xs t i 1218 l6 l7 l8 (h, r) := by
  obtain ⟨c, s, L, Sv, Hs, nx, ct, sv, er, fa, n, m, g, A, C, M0, O0, G, hn, hc, hs⟩ := R
  have hM := G.1
  have hL := G.2.1
  obtain ⟨n0, hn0, h70⟩ := Nn hL
  have K : QK h 33 55 L C.2.1.choose := AK_QK C.2.1.choose_spec hn0 h70
  cases hf : L.2.2.2.2.find? (fndP a0) with
  | none =>
    have e := q113n r K hf
    have M2 := (fin_e C (Kp_rf h) M0 O0).1
    have ew := w259_1 (CPr_rv C r) a0 e
    have em := u202n h g A (hsx (h, r)).2 (p := 172) (by decide) hM hf
    rw [M2] at em
    have rv1 := rvM h 172 g A (hsx (h, r)).2
    rw [M2] at rv1
    have et := m149 h (up g 9 1) A (hsx (h, r)).2 (p := 172)
    rw [up_eq] at et
    have rv2 := rvM h 172 (up g 9 1) A (hsx (h, r)).2
    have u1 := sc_rd C hl s1 r
    have t1 := sc_rd C hl s1 (hsx (h, r)).2
    obtain ⟨x, y, z, ez⟩ := z18 (i := i) (Or.inl rfl) u1 t1 ew em et rv1 rv2 (fun q => absurd q (by decide)) l6 l7 l8
    exact ⟨x, y, z, _, ez, qe C M0 O0 G hn hc hs ht C (Kp_rf h) (fun k k9 _ => up_ne _ _ k9) (fun _ _ => rfl) (fun _ _ _ _ => rfl)⟩
  | some q =>
    have e := q113 r K hf
    obtain ⟨C2, M2, ⟨oo, ho⟩, fi⟩ := fin_v C (Kp_rf h) M0 O0 (b2i (decide (q.2.1 = 2)) : Int32).toInt64
    have ew := w259 (CPr_rv C r) a0 (b2i_01 _) e ho
    have em := u202 (pu h 184 (103, [.long (b2i (decide (q.2.1 = 2)) : Int32).toInt64])) g A r (p := 172) (by decide) hM hL hf
    rw [M2] at em
    have rv1 := rvM (pu h 184 (103, [.long (b2i (decide (q.2.1 = 2)) : Int32).toInt64])) 172 g A r
    rw [M2] at rv1
    have et := m149 (pu h 184 (103, [.long (b2i (decide (q.2.1 = 2)) : Int32).toInt64])) (up g 9 0) A r (p := 172)
    rw [up_eq] at et
    have rv2 := rvM (pu h 184 (103, [.long (b2i (decide (q.2.1 = 2)) : Int32).toInt64])) 172 (up g 9 0) A r
    have u1 := sc_rd C hl s1 r
    have t1 := sc_rd C2 hl s1 r
    obtain ⟨x, y, z, ez⟩ := z18 (i := i) (b2i_01 _) u1 t1 ew em et rv1 rv2 (fun _ => (fi _ _).2.2) l6 l7 l8
    exact ⟨x, y, z, _, ez, qv C M0 O0 G hn hc hs ht C (Kp_rf h) _ (fun k k9 _ => up_ne _ _ k9) (fun _ _ => rfl) (fun _ _ _ _ => rfl)⟩
theorem st19 (R : GR xs t (h, r)) (ht : t ≤ 511) (hl : xs.length ≤ 2048) {a0 : Int32} (s1 : xs[i + 1]? = some a0) (l6 l7 l8 : Value) : STP xs t i 1281 l6 l7 l8 (h, r) := by
  obtain ⟨c, s, L, Sv, Hs, nx, ct, sv, er, fa, n, m, g, A, C, M0, O0, G, hn, hc, hs⟩ := R
  have hM := G.1
  have hL := G.2.1
  obtain ⟨n0, hn0, h70⟩ := Nn hL
  have K : QK h 33 55 L C.2.1.choose := AK_QK C.2.1.choose_spec hn0 h70
  cases hf : L.2.2.2.2.find? (fndP a0) with
  | none =>
    have e := q114n r K hf
    have M2 := (fin_e C (Kp_rf h) M0 O0).1
    have ew := w260_1 (CPr_rv C r) a0 e
    have em := u203n h g A (hsx (h, r)).2 (p := 172) (by decide) hM hf
    rw [M2] at em
    have rv1 := rvM h 172 g A (hsx (h, r)).2
    rw [M2] at rv1
    have et := m149 h (up g 9 1) A (hsx (h, r)).2 (p := 172)
    rw [up_eq] at et
    have rv2 := rvM h 172 (up g 9 1) A (hsx (h, r)).2
    have u1 := sc_rd C hl s1 r
    have t1 := sc_rd C hl s1 (hsx (h, r)).2
    obtain ⟨x, y, z, ez⟩ := z19 (i := i) (Or.inl rfl) u1 t1 ew em et rv1 rv2 (fun q => absurd q (by decide)) l6 l7 l8
    exact ⟨x, y, z, _, ez, qe C M0 O0 G hn hc hs ht C (Kp_rf h) (fun k k9 _ => up_ne _ _ k9) (fun _ _ => rfl) (fun _ _ _ _ => rfl)⟩
  | some q =>
    have e := q114 r K hf
    obtain ⟨C2, M2, ⟨oo, ho⟩, fi⟩ := fin_v C (Kp_rf h) M0 O0 (q.2.2 9 : Int32).toInt64
    have ew := w260 (CPr_rv C r) a0 (present hL hf).2.2.2.2 e ho
    have em := u203 (pu h 184 (103, [.long (q.2.2 9 : Int32).toInt64])) g A r (p := 172) (by decide) hM hL hf
    rw [M2] at em
    have rv1 := rvM (pu h 184 (103, [.long (q.2.2 9 : Int32).toInt64])) 172 g A r
    rw [M2] at rv1
    have et := m149 (pu h 184 (103, [.long (q.2.2 9 : Int32).toInt64])) (up g 9 0) A r (p := 172)
    rw [up_eq] at et
    have rv2 := rvM (pu h 184 (103, [.long (q.2.2 9 : Int32).toInt64])) 172 (up g 9 0) A r
    have u1 := sc_rd C hl s1 r
    have t1 := sc_rd C2 hl s1 r
    obtain ⟨x, y, z, ez⟩ := z19 (i := i) (present hL hf).2.2.2.2 u1 t1 ew em et rv1 rv2 (fun _ => (fi _ _).2.2) l6 l7 l8
    exact ⟨x, y, z, _, ez, qv C M0 O0 G hn hc hs ht C (Kp_rf h) _ (fun k k9 _ => up_ne _ _ k9) (fun _ _ => rfl) (fun _ _ _ _ => rfl)⟩
theorem st20 (R : GR xs t (h, r)) (ht : t ≤ 511) (hl : xs.length ≤ 2048) {a0 : Int32} (s1 : xs[i + 1]? = some a0) (l6 l7 l8 : Value) : STP xs t i 1344 l6 l7 l8 (h, r) := by
  obtain ⟨c, s, L, Sv, Hs, nx, ct, sv, er, fa, n, m, g, A, C, M0, O0, G, hn, hc, hs⟩ := R
  have hM := G.1
  have hL := G.2.1
  obtain ⟨n0, hn0, h70⟩ := Nn hL
  have K : QK h 33 55 L C.2.1.choose := AK_QK C.2.1.choose_spec hn0 h70
  cases hf : L.2.2.2.2.find? (fndP a0) with
  | none =>
    have e := q115n r K hf
    have M2 := (fin_e C (Kp_rf h) M0 O0).1
    have ew := w261_1 (CPr_rv C r) a0 e
    have em := (u20Xn h g A (hsx (h, r)).2 (p := 172) (by decide) hM hf).1
    rw [M2] at em
    have rv1 := rvM h 172 g A (hsx (h, r)).2
    rw [M2] at rv1
    have et := m149 h (up g 9 1) A (hsx (h, r)).2 (p := 172)
    rw [up_eq] at et
    have rv2 := rvM h 172 (up g 9 1) A (hsx (h, r)).2
    have u1 := sc_rd C hl s1 r
    have t1 := sc_rd C hl s1 (hsx (h, r)).2
    obtain ⟨x, y, z, ez⟩ := z20 (i := i)  u1 t1 ew em et rv1 rv2 (fun q => absurd q (by decide)) l6 l7 l8
    exact ⟨x, y, z, _, ez, qe C M0 O0 G hn hc hs ht C (Kp_rf h) (fun k k9 _ => up_ne _ _ k9) (fun _ _ => rfl) (fun _ _ _ _ => rfl)⟩
  | some q =>
    have e0 := q115 r K hf
    by_cases c3 : q.2.1 = 3
    · rw [if_pos c3] at e0
      have e := e0
      obtain ⟨C2, M2, ⟨oo, ho⟩, fi⟩ := fin_v C (Kp_rf h) M0 O0 (q.2.2 6 : Int32).toInt64
      have ew := w261 (CPr_rv C r) a0  e ho
      have em := u205 (pu h 184 (103, [.long (q.2.2 6 : Int32).toInt64])) g A r (p := 172) (by decide) hM hf c3
      rw [M2] at em
      have rv1 := rvM (pu h 184 (103, [.long (q.2.2 6 : Int32).toInt64])) 172 g A r
      rw [M2] at rv1
      have et := m149 (pu h 184 (103, [.long (q.2.2 6 : Int32).toInt64])) (up g 9 0) A r (p := 172)
      rw [up_eq] at et
      have rv2 := rvM (pu h 184 (103, [.long (q.2.2 6 : Int32).toInt64])) 172 (up g 9 0) A r
      have u1 := sc_rd C hl s1 r
      have t1 := sc_rd C2 hl s1 r
      obtain ⟨x, y, z, ez⟩ := z20 (i := i)  u1 t1 ew em et rv1 rv2 (fun _ => (fi _ _).2.2) l6 l7 l8
      exact ⟨x, y, z, _, ez, qv C M0 O0 G hn hc hs ht C (Kp_rf h) _ (fun k k9 _ => up_ne _ _ k9) (fun _ _ => rfl) (fun _ _ _ _ => rfl)⟩
    · rw [if_neg c3] at e0
      have e := e0
      have M2 := (fin_e C (Kp_rf h) M0 O0).1
      have ew := w261_2 (CPr_rv C r) a0 e
      have em := u205f h g A (hsx (h, r)).2 (p := 172) (by decide) hM hf c3
      rw [M2] at em
      have rv1 := rvM h 172 g A (hsx (h, r)).2
      rw [M2] at rv1
      have et := m149 h (up g 9 2) A (hsx (h, r)).2 (p := 172)
      rw [up_eq] at et
      have rv2 := rvM h 172 (up g 9 2) A (hsx (h, r)).2
      have u1 := sc_rd C hl s1 r
      have t1 := sc_rd C hl s1 (hsx (h, r)).2
      obtain ⟨x, y, z, ez⟩ := z20 (i := i)  u1 t1 ew em et rv1 rv2 (fun q => absurd q (by decide)) l6 l7 l8
      exact ⟨x, y, z, _, ez, qe C M0 O0 G hn hc hs ht C (Kp_rf h) (fun k k9 _ => up_ne _ _ k9) (fun _ _ => rfl) (fun _ _ _ _ => rfl)⟩
theorem st21 (R : GR xs t (h, r)) (ht : t ≤ 511) (hl : xs.length ≤ 2048) {a0 : Int32} (s1 : xs[i + 1]? = some a0) (l6 l7 l8 : Value) : STP xs t i 1400 l6 l7 l8 (h, r) := by
  obtain ⟨c, s, L, Sv, Hs, nx, ct, sv, er, fa, n, m, g, A, C, M0, O0, G, hn, hc, hs⟩ := R
  have hM := G.1
  have hL := G.2.1
  obtain ⟨n0, hn0, h70⟩ := Nn hL
  have K : QK h 33 55 L C.2.1.choose := AK_QK C.2.1.choose_spec hn0 h70
  cases hf : L.2.2.2.2.find? (fndP a0) with
  | none =>
    have e := q116n r K hf
    have M2 := (fin_e C (Kp_rf h) M0 O0).1
    have ew := w262_1 (CPr_rv C r) a0 e
    have em := (u20Xn h g A (hsx (h, r)).2 (p := 172) (by decide) hM hf).2.1
    rw [M2] at em
    have rv1 := rvM h 172 g A (hsx (h, r)).2
    rw [M2] at rv1
    have et := m149 h (up g 9 1) A (hsx (h, r)).2 (p := 172)
    rw [up_eq] at et
    have rv2 := rvM h 172 (up g 9 1) A (hsx (h, r)).2
    have u1 := sc_rd C hl s1 r
    have t1 := sc_rd C hl s1 (hsx (h, r)).2
    obtain ⟨x, y, z, ez⟩ := z21 (i := i)  u1 t1 ew em et rv1 rv2 (fun q => absurd q (by decide)) l6 l7 l8
    exact ⟨x, y, z, _, ez, qe C M0 O0 G hn hc hs ht C (Kp_rf h) (fun k k9 _ => up_ne _ _ k9) (fun _ _ => rfl) (fun _ _ _ _ => rfl)⟩
  | some q =>
    have e0 := q116 r K hf
    by_cases c3 : q.2.1 = 4
    · rw [if_pos c3] at e0
      have e := e0
      obtain ⟨C2, M2, ⟨oo, ho⟩, fi⟩ := fin_v C (Kp_rf h) M0 O0 (q.2.2 7 : Int32).toInt64
      have ew := w262 (CPr_rv C r) a0  e ho
      have em := u206 (pu h 184 (103, [.long (q.2.2 7 : Int32).toInt64])) g A r (p := 172) (by decide) hM hf c3
      rw [M2] at em
      have rv1 := rvM (pu h 184 (103, [.long (q.2.2 7 : Int32).toInt64])) 172 g A r
      rw [M2] at rv1
      have et := m149 (pu h 184 (103, [.long (q.2.2 7 : Int32).toInt64])) (up g 9 0) A r (p := 172)
      rw [up_eq] at et
      have rv2 := rvM (pu h 184 (103, [.long (q.2.2 7 : Int32).toInt64])) 172 (up g 9 0) A r
      have u1 := sc_rd C hl s1 r
      have t1 := sc_rd C2 hl s1 r
      obtain ⟨x, y, z, ez⟩ := z21 (i := i)  u1 t1 ew em et rv1 rv2 (fun _ => (fi _ _).2.2) l6 l7 l8
      exact ⟨x, y, z, _, ez, qv C M0 O0 G hn hc hs ht C (Kp_rf h) _ (fun k k9 _ => up_ne _ _ k9) (fun _ _ => rfl) (fun _ _ _ _ => rfl)⟩
    · rw [if_neg c3] at e0
      have e := e0
      have M2 := (fin_e C (Kp_rf h) M0 O0).1
      have ew := w262_2 (CPr_rv C r) a0 e
      have em := u206f h g A (hsx (h, r)).2 (p := 172) (by decide) hM hf c3
      rw [M2] at em
      have rv1 := rvM h 172 g A (hsx (h, r)).2
      rw [M2] at rv1
      have et := m149 h (up g 9 2) A (hsx (h, r)).2 (p := 172)
      rw [up_eq] at et
      have rv2 := rvM h 172 (up g 9 2) A (hsx (h, r)).2
      have u1 := sc_rd C hl s1 r
      have t1 := sc_rd C hl s1 (hsx (h, r)).2
      obtain ⟨x, y, z, ez⟩ := z21 (i := i)  u1 t1 ew em et rv1 rv2 (fun q => absurd q (by decide)) l6 l7 l8
      exact ⟨x, y, z, _, ez, qe C M0 O0 G hn hc hs ht C (Kp_rf h) (fun k k9 _ => up_ne _ _ k9) (fun _ _ => rfl) (fun _ _ _ _ => rfl)⟩
theorem st22 (R : GR xs t (h, r)) (ht : t ≤ 511) (hl : xs.length ≤ 2048) {a0 : Int32} (s1 : xs[i + 1]? = some a0) (l6 l7 l8 : Value) : STP xs t i 1456 l6 l7 l8 (h, r) := by
  obtain ⟨c, s, L, Sv, Hs, nx, ct, sv, er, fa, n, m, g, A, C, M0, O0, G, hn, hc, hs⟩ := R
  have hM := G.1
  have hL := G.2.1
  obtain ⟨n0, hn0, h70⟩ := Nn hL
  have K : QK h 33 55 L C.2.1.choose := AK_QK C.2.1.choose_spec hn0 h70
  cases hf : L.2.2.2.2.find? (fndP a0) with
  | none =>
    have e := q117n r K hf
    have M2 := (fin_e C (Kp_rf h) M0 O0).1
    have ew := w263_1 (CPr_rv C r) a0 e
    have em := (u20Xn h g A (hsx (h, r)).2 (p := 172) (by decide) hM hf).2.2.1
    rw [M2] at em
    have rv1 := rvM h 172 g A (hsx (h, r)).2
    rw [M2] at rv1
    have et := m149 h (up g 9 1) A (hsx (h, r)).2 (p := 172)
    rw [up_eq] at et
    have rv2 := rvM h 172 (up g 9 1) A (hsx (h, r)).2
    have u1 := sc_rd C hl s1 r
    have t1 := sc_rd C hl s1 (hsx (h, r)).2
    obtain ⟨x, y, z, ez⟩ := z22 (i := i)  u1 t1 ew em et rv1 rv2 (fun q => absurd q (by decide)) l6 l7 l8
    exact ⟨x, y, z, _, ez, qe C M0 O0 G hn hc hs ht C (Kp_rf h) (fun k k9 _ => up_ne _ _ k9) (fun _ _ => rfl) (fun _ _ _ _ => rfl)⟩
  | some q =>
    have e0 := q117 r K hf
    by_cases c3 : q.2.1 = 4
    · rw [if_pos c3] at e0
      have e := e0
      obtain ⟨C2, M2, ⟨oo, ho⟩, fi⟩ := fin_v C (Kp_rf h) M0 O0 (q.2.2 8 : Int32).toInt64
      have ew := w263 (CPr_rv C r) a0  e ho
      have em := u207 (pu h 184 (103, [.long (q.2.2 8 : Int32).toInt64])) g A r (p := 172) (by decide) hM hf c3
      rw [M2] at em
      have rv1 := rvM (pu h 184 (103, [.long (q.2.2 8 : Int32).toInt64])) 172 g A r
      rw [M2] at rv1
      have et := m149 (pu h 184 (103, [.long (q.2.2 8 : Int32).toInt64])) (up g 9 0) A r (p := 172)
      rw [up_eq] at et
      have rv2 := rvM (pu h 184 (103, [.long (q.2.2 8 : Int32).toInt64])) 172 (up g 9 0) A r
      have u1 := sc_rd C hl s1 r
      have t1 := sc_rd C2 hl s1 r
      obtain ⟨x, y, z, ez⟩ := z22 (i := i)  u1 t1 ew em et rv1 rv2 (fun _ => (fi _ _).2.2) l6 l7 l8
      exact ⟨x, y, z, _, ez, qv C M0 O0 G hn hc hs ht C (Kp_rf h) _ (fun k k9 _ => up_ne _ _ k9) (fun _ _ => rfl) (fun _ _ _ _ => rfl)⟩
    · rw [if_neg c3] at e0
      have e := e0
      have M2 := (fin_e C (Kp_rf h) M0 O0).1
      have ew := w263_2 (CPr_rv C r) a0 e
      have em := u207f h g A (hsx (h, r)).2 (p := 172) (by decide) hM hf c3
      rw [M2] at em
      have rv1 := rvM h 172 g A (hsx (h, r)).2
      rw [M2] at rv1
      have et := m149 h (up g 9 2) A (hsx (h, r)).2 (p := 172)
      rw [up_eq] at et
      have rv2 := rvM h 172 (up g 9 2) A (hsx (h, r)).2
      have u1 := sc_rd C hl s1 r
      have t1 := sc_rd C hl s1 (hsx (h, r)).2
      obtain ⟨x, y, z, ez⟩ := z22 (i := i)  u1 t1 ew em et rv1 rv2 (fun q => absurd q (by decide)) l6 l7 l8
      exact ⟨x, y, z, _, ez, qe C M0 O0 G hn hc hs ht C (Kp_rf h) (fun k k9 _ => up_ne _ _ k9) (fun _ _ => rfl) (fun _ _ _ _ => rfl)⟩
theorem st23 (R : GR xs t (h, r)) (ht : t ≤ 511) (hl : xs.length ≤ 2048) {a0 : Int32} (s1 : xs[i + 1]? = some a0) (l6 l7 l8 : Value) : STP xs t i 1512 l6 l7 l8 (h, r) := by
  obtain ⟨c, s, L, Sv, Hs, nx, ct, sv, er, fa, n, m, g, A, C, M0, O0, G, hn, hc, hs⟩ := R
  have hM := G.1
  have hL := G.2.1
  obtain ⟨n0, hn0, h70⟩ := Nn hL
  have K : QK h 33 55 L C.2.1.choose := AK_QK C.2.1.choose_spec hn0 h70
  cases hf : L.2.2.2.2.find? (fndP a0) with
  | none =>
    have e := q118n r K hf
    have M2 := (fin_e C (Kp_rf h) M0 O0).1
    have ew := w264_1 (CPr_rv C r) a0 e
    have em := (u20Xn h g A (hsx (h, r)).2 (p := 172) (by decide) hM hf).2.2.2
    rw [M2] at em
    have rv1 := rvM h 172 g A (hsx (h, r)).2
    rw [M2] at rv1
    have et := m149 h (up g 9 1) A (hsx (h, r)).2 (p := 172)
    rw [up_eq] at et
    have rv2 := rvM h 172 (up g 9 1) A (hsx (h, r)).2
    have u1 := sc_rd C hl s1 r
    have t1 := sc_rd C hl s1 (hsx (h, r)).2
    obtain ⟨x, y, z, ez⟩ := z23 (i := i)  u1 t1 ew em et rv1 rv2 (fun q => absurd q (by decide)) l6 l7 l8
    exact ⟨x, y, z, _, ez, qe C M0 O0 G hn hc hs ht C (Kp_rf h) (fun k k9 _ => up_ne _ _ k9) (fun _ _ => rfl) (fun _ _ _ _ => rfl)⟩
  | some q =>
    have e := q118 r K hf
    obtain ⟨C2, M2, ⟨oo, ho⟩, fi⟩ := fin_v C (Kp_rf h) M0 O0 (q.2.2 10 : Int32).toInt64
    have ew := w264 (CPr_rv C r) a0  e ho
    have em := u208 (pu h 184 (103, [.long (q.2.2 10 : Int32).toInt64])) g A r (p := 172) (by decide) hM hf
    rw [M2] at em
    have rv1 := rvM (pu h 184 (103, [.long (q.2.2 10 : Int32).toInt64])) 172 g A r
    rw [M2] at rv1
    have et := m149 (pu h 184 (103, [.long (q.2.2 10 : Int32).toInt64])) (up g 9 0) A r (p := 172)
    rw [up_eq] at et
    have rv2 := rvM (pu h 184 (103, [.long (q.2.2 10 : Int32).toInt64])) 172 (up g 9 0) A r
    have u1 := sc_rd C hl s1 r
    have t1 := sc_rd C2 hl s1 r
    obtain ⟨x, y, z, ez⟩ := z23 (i := i)  u1 t1 ew em et rv1 rv2 (fun _ => (fi _ _).2.2) l6 l7 l8
    exact ⟨x, y, z, _, ez, qv C M0 O0 G hn hc hs ht C (Kp_rf h) _ (fun k k9 _ => up_ne _ _ k9) (fun _ _ => rfl) (fun _ _ _ _ => rfl)⟩
theorem st24 (R : GR xs t (h, r)) (ht : t ≤ 511) (hl : xs.length ≤ 2048) {a0 : Int32} (s1 : xs[i + 1]? = some a0) (l6 l7 l8 : Value) : STP xs t i 1568 l6 l7 l8 (h, r) := by
  obtain ⟨c, s, L, Sv, Hs, nx, ct, sv, er, fa, n, m, g, A, C, M0, O0, G, hn, hc, hs⟩ := R
  have hM := G.1
  have hL := G.2.1
  obtain ⟨n0, hn0, h70⟩ := Nn hL
  have K : QK h 33 55 L C.2.1.choose := AK_QK C.2.1.choose_spec hn0 h70
  cases hf : L.2.2.2.2.find? (fndP a0) with
  | none =>
    have e := q119n r K hf
    have M2 := (fin_e C (Kp_rf h) M0 O0).1
    have ew := w265_1 (CPr_rv C r) a0 e
    have em := u209n h g A (hsx (h, r)).2 (p := 172) (by decide) hM hf
    rw [M2] at em
    have rv1 := rvM h 172 g A (hsx (h, r)).2
    rw [M2] at rv1
    have et := m149 h (up g 9 1) A (hsx (h, r)).2 (p := 172)
    rw [up_eq] at et
    have rv2 := rvM h 172 (up g 9 1) A (hsx (h, r)).2
    have u1 := sc_rd C hl s1 r
    have t1 := sc_rd C hl s1 (hsx (h, r)).2
    obtain ⟨x, y, z, ez⟩ := z24 (i := i)  u1 t1 ew em et rv1 rv2 (fun q => absurd q (by decide)) l6 l7 l8
    exact ⟨x, y, z, _, ez, qe C M0 O0 G hn hc hs ht C (Kp_rf h) (fun k k9 _ => up_ne _ _ k9) (fun _ _ => rfl) (fun _ _ _ _ => rfl)⟩
  | some q =>
    have e := q119 r K hf
    obtain ⟨C2, M2, ⟨oo, ho⟩, fi⟩ := fin_v C (Kp_rf h) M0 O0 (q.2.2 5 : Int32).toInt64
    have ew := w265 (CPr_rv C r) a0  e ho
    have em := u209 (pu h 184 (103, [.long (q.2.2 5 : Int32).toInt64])) g A r (p := 172) (by decide) hM hL hf
    rw [M2] at em
    have rv1 := rvM (pu h 184 (103, [.long (q.2.2 5 : Int32).toInt64])) 172 g A r
    rw [M2] at rv1
    have et := m149 (pu h 184 (103, [.long (q.2.2 5 : Int32).toInt64])) (up g 9 0) A r (p := 172)
    rw [up_eq] at et
    have rv2 := rvM (pu h 184 (103, [.long (q.2.2 5 : Int32).toInt64])) 172 (up g 9 0) A r
    have u1 := sc_rd C hl s1 r
    have t1 := sc_rd C2 hl s1 r
    obtain ⟨x, y, z, ez⟩ := z24 (i := i)  u1 t1 ew em et rv1 rv2 (fun _ => (fi _ _).2.2) l6 l7 l8
    exact ⟨x, y, z, _, ez, qv C M0 O0 G hn hc hs ht C (Kp_rf h) _ (fun k k9 _ => up_ne _ _ k9) (fun _ _ => rfl) (fun _ _ _ _ => rfl)⟩
theorem st28 (R : GR xs t (h, r)) (ht : t ≤ 511) (hl : xs.length ≤ 2048) {a0 : Int32} (s1 : xs[i + 1]? = some a0) (l6 l7 l8 : Value) : STP xs t i 1749 l6 l7 l8 (h, r) := by
  obtain ⟨c, s, L, Sv, Hs, nx, ct, sv, er, fa, n, m, g, A, C, M0, O0, G, hn, hc, hs⟩ := R
  have hM := G.1
  have hL := G.2.1
  obtain ⟨n0, hn0, h70⟩ := Nn hL
  have K : QK h 33 55 L C.2.1.choose := AK_QK C.2.1.choose_spec hn0 h70
  have e0 := q123 r K a0
  have hX : 60 * ((t : Int) - n) ≤ 31100 := by omega
  cases hf : L.2.2.2.2.find? (rkF L.2.2.2.2 a0) with
  | none =>
    rw [hf] at e0
    have eu := fun h' r' => u215 h' g A r' (p := 172) (by decide) hM hL hX a0
    simp only [hf] at eu
    have e := e0
    have M2 := (fin_e C (Kp_rf h) M0 O0).1
    have ew := w268_1 (CPr_rv C r) a0 e
    have em := eu h (hsx (h, r)).2
    rw [M2] at em
    have rv1 := rvM h 172 g A (hsx (h, r)).2
    rw [M2] at rv1
    have et := m149 h (up g 9 1) A (hsx (h, r)).2 (p := 172)
    rw [up_eq] at et
    have rv2 := rvM h 172 (up g 9 1) A (hsx (h, r)).2
    have u1 := sc_rd C hl s1 r
    have t1 := sc_rd C hl s1 (hsx (h, r)).2
    obtain ⟨x, y, z, ez⟩ := z28 (i := i)  u1 t1 ew em et rv1 rv2 (fun q => absurd q (by decide)) l6 l7 l8
    exact ⟨x, y, z, _, ez, qe C M0 O0 G hn hc hs ht C (Kp_rf h) (fun k k9 _ => up_ne _ _ k9) (fun _ _ => rfl) (fun _ _ _ _ => rfl)⟩
  | some q =>
    rw [hf] at e0
    have eu := fun h' r' => u215 h' g A r' (p := 172) (by decide) hM hL hX a0
    simp only [hf] at eu
    have e := e0
    obtain ⟨C2, M2, ⟨oo, ho⟩, fi⟩ := fin_v C (Kp_rf h) M0 O0 (q.2.2 1 : Int32).toInt64
    have ew := w268 (CPr_rv C r) a0  e ho
    have em := eu (pu h 184 (103, [.long (q.2.2 1 : Int32).toInt64])) r
    rw [M2] at em
    have rv1 := rvM (pu h 184 (103, [.long (q.2.2 1 : Int32).toInt64])) 172 g A r
    rw [M2] at rv1
    have et := m149 (pu h 184 (103, [.long (q.2.2 1 : Int32).toInt64])) (up g 9 0) A r (p := 172)
    rw [up_eq] at et
    have rv2 := rvM (pu h 184 (103, [.long (q.2.2 1 : Int32).toInt64])) 172 (up g 9 0) A r
    have u1 := sc_rd C hl s1 r
    have t1 := sc_rd C2 hl s1 r
    obtain ⟨x, y, z, ez⟩ := z28 (i := i)  u1 t1 ew em et rv1 rv2 (fun _ => (fi _ _).2.2) l6 l7 l8
    exact ⟨x, y, z, _, ez, qv C M0 O0 G hn hc hs ht C (Kp_rf h) _ (fun k k9 _ => up_ne _ _ k9) (fun _ _ => rfl) (fun _ _ _ _ => rfl)⟩
theorem st31 (R : GR xs t (h, r)) (ht : t ≤ 511) (hl : xs.length ≤ 2048) (l6 l7 l8 : Value) : STP xs t i 1831 l6 l7 l8 (h, r) := by
  obtain ⟨c, s, L, Sv, Hs, nx, ct, sv, er, fa, n, m, g, A, C, M0, O0, G, hn, hc, hs⟩ := R
  have hM := G.1
  have hL := G.2.1
  obtain ⟨n0, hn0, h70⟩ := Nn hL
  have K : QK h 33 55 L C.2.1.choose := AK_QK C.2.1.choose_spec hn0 h70
  by_cases hv : 0 < L.1 8
  · skip
    have e := q128 r K hv
    obtain ⟨C2, M2, ⟨oo, ho⟩, fi⟩ := fin_v C (Kp_rf h) M0 O0 (L.1 9 : Int32).toInt64
    have ew := w269 (CPr_rv C r)   e ho
    have em := u218 (pu h 184 (103, [.long (L.1 9 : Int32).toInt64])) g A r (p := 172) (by decide) hM hv
    rw [M2] at em
    have rv1 := rvM (pu h 184 (103, [.long (L.1 9 : Int32).toInt64])) 172 g A r
    rw [M2] at rv1
    have et := m149 (pu h 184 (103, [.long (L.1 9 : Int32).toInt64])) (up g 9 0) A r (p := 172)
    rw [up_eq] at et
    have rv2 := rvM (pu h 184 (103, [.long (L.1 9 : Int32).toInt64])) 172 (up g 9 0) A r
    obtain ⟨x, y, z, ez⟩ := z31 (i := i)   ew em et rv1 rv2 (fun _ => (fi _ _).2.2) l6 l7 l8
    exact ⟨x, y, z, _, ez, qv C M0 O0 G hn hc hs ht C (Kp_rf h) _ (fun k k9 _ => up_ne _ _ k9) (fun _ _ => rfl) (fun _ _ _ _ => rfl)⟩
  · skip
    have e := q128n r K hv
    have M2 := (fin_e C (Kp_rf h) M0 O0).1
    have ew := w269_1 (CPr_rv C r)  e
    have em := u218n h g A (hsx (h, r)).2 (p := 172) (by decide) hM (fin_0 hL hv)
    rw [M2] at em
    have rv1 := rvM h 172 g A (hsx (h, r)).2
    rw [M2] at rv1
    have et := m149 h (up g 9 1) A (hsx (h, r)).2 (p := 172)
    rw [up_eq] at et
    have rv2 := rvM h 172 (up g 9 1) A (hsx (h, r)).2
    obtain ⟨x, y, z, ez⟩ := z31 (i := i)   ew em et rv1 rv2 (fun q => absurd q (by decide)) l6 l7 l8
    exact ⟨x, y, z, _, ez, qe C M0 O0 G hn hc hs ht C (Kp_rf h) (fun k k9 _ => up_ne _ _ k9) (fun _ _ => rfl) (fun _ _ _ _ => rfl)⟩
theorem st33 (R : GR xs t (h, r)) (ht : t ≤ 511) (hl : xs.length ≤ 2048) (l6 l7 l8 : Value) : STP xs t i 1889 l6 l7 l8 (h, r) := by
  obtain ⟨c, s, L, Sv, Hs, nx, ct, sv, er, fa, n, m, g, A, C, M0, O0, G, hn, hc, hs⟩ := R
  have hM := G.1
  have hL := G.2.1
  obtain ⟨n0, hn0, h70⟩ := Nn hL
  have K : QK h 33 55 L C.2.1.choose := AK_QK C.2.1.choose_spec hn0 h70
  by_cases hv : 0 < L.1 8
  · skip
    have e := q130 r K hv
    obtain ⟨C2, M2, ⟨oo, ho⟩, fi⟩ := fin_v C (Kp_rf h) M0 O0 (L.1 11 : Int32).toInt64
    have ew := w270 (CPr_rv C r)   e ho
    have em := u220 (pu h 184 (103, [.long (L.1 11 : Int32).toInt64])) g A r (p := 172) (by decide) hM hv
    rw [M2] at em
    have rv1 := rvM (pu h 184 (103, [.long (L.1 11 : Int32).toInt64])) 172 g A r
    rw [M2] at rv1
    have et := m149 (pu h 184 (103, [.long (L.1 11 : Int32).toInt64])) (up g 9 0) A r (p := 172)
    rw [up_eq] at et
    have rv2 := rvM (pu h 184 (103, [.long (L.1 11 : Int32).toInt64])) 172 (up g 9 0) A r
    obtain ⟨x, y, z, ez⟩ := z33 (i := i)   ew em et rv1 rv2 (fun _ => (fi _ _).2.2) l6 l7 l8
    exact ⟨x, y, z, _, ez, qv C M0 O0 G hn hc hs ht C (Kp_rf h) _ (fun k k9 _ => up_ne _ _ k9) (fun _ _ => rfl) (fun _ _ _ _ => rfl)⟩
  · skip
    have e := q130n r K hv
    have M2 := (fin_e C (Kp_rf h) M0 O0).1
    have ew := w270_1 (CPr_rv C r)  e
    have em := u220n h g A (hsx (h, r)).2 (p := 172) (by decide) hM (fin_0 hL hv)
    rw [M2] at em
    have rv1 := rvM h 172 g A (hsx (h, r)).2
    rw [M2] at rv1
    have et := m149 h (up g 9 1) A (hsx (h, r)).2 (p := 172)
    rw [up_eq] at et
    have rv2 := rvM h 172 (up g 9 1) A (hsx (h, r)).2
    obtain ⟨x, y, z, ez⟩ := z33 (i := i)   ew em et rv1 rv2 (fun q => absurd q (by decide)) l6 l7 l8
    exact ⟨x, y, z, _, ez, qe C M0 O0 G hn hc hs ht C (Kp_rf h) (fun k k9 _ => up_ne _ _ k9) (fun _ _ => rfl) (fun _ _ _ _ => rfl)⟩
theorem st39 (R : GR xs t (h, r)) (ht : t ≤ 511) (hl : xs.length ≤ 2048) (l6 l7 l8 : Value) : STP xs t i 2179 l6 l7 l8 (h, r) := by
  obtain ⟨c, s, L, Sv, Hs, nx, ct, sv, er, fa, n, m, g, A, C, M0, O0, G, hn, hc, hs⟩ := R
  have hM := G.1
  have hL := G.2.1
  obtain ⟨n0, hn0, h70⟩ := Nn hL
  have K : QK h 33 55 L C.2.1.choose := AK_QK C.2.1.choose_spec hn0 h70
  have eg : g 7 = er := G.2.2.2.2.1.1
  by_cases hv : er = -1
  · skip
    have e := m137n r C.2.1.choose_spec hv
    have M2 := (fin_e C (Kp_rf h) M0 O0).1
    have ew := w275_1 (CPr_rv C r)  e
    have em := m234n h g A (hsx (h, r)).2 (p := 172) (by decide) (eg.trans hv)
    rw [M2] at em
    have rv1 := rvM h 172 g A (hsx (h, r)).2
    rw [M2] at rv1
    have et := m149 h (up g 9 1) A (hsx (h, r)).2 (p := 172)
    rw [up_eq] at et
    have rv2 := rvM h 172 (up g 9 1) A (hsx (h, r)).2
    obtain ⟨x, y, z, ez⟩ := z39 (i := i)   ew em et rv1 rv2 (fun q => absurd q (by decide)) l6 l7 l8
    exact ⟨x, y, z, _, ez, qe C M0 O0 G hn hc hs ht C (Kp_rf h) (fun k k9 _ => up_ne _ _ k9) (fun _ _ => rfl) (fun _ _ _ _ => rfl)⟩
  · skip
    have e := m137 r C.2.1.choose_spec hv
    obtain ⟨C2, M2, ⟨oo, ho⟩, fi⟩ := fin_v C (Kp_rf h) M0 O0 (er : Int32).toInt64
    have ew := w275 (CPr_rv C r)   e ho
    have em := m234 (pu h 184 (103, [.long (er : Int32).toInt64])) g A r (p := 172) (by decide) (fun z => hv (eg.symm.trans z))
    rw [M2, eg] at em
    have rv1 := rvM (pu h 184 (103, [.long (er : Int32).toInt64])) 172 g A r
    rw [M2] at rv1
    have et := m149 (pu h 184 (103, [.long (er : Int32).toInt64])) (up g 9 0) A r (p := 172)
    rw [up_eq] at et
    have rv2 := rvM (pu h 184 (103, [.long (er : Int32).toInt64])) 172 (up g 9 0) A r
    obtain ⟨x, y, z, ez⟩ := z39 (i := i)   ew em et rv1 rv2 (fun _ => (fi _ _).2.2) l6 l7 l8
    exact ⟨x, y, z, _, ez, qv C M0 O0 G hn hc hs ht C (Kp_rf h) _ (fun k k9 _ => up_ne _ _ k9) (fun _ _ => rfl) (fun _ _ _ _ => rfl)⟩
theorem st40 (R : GR xs t (h, r)) (ht : t ≤ 511) (hl : xs.length ≤ 2048) (l6 l7 l8 : Value) : STP xs t i 2223 l6 l7 l8 (h, r) := by
  obtain ⟨c, s, L, Sv, Hs, nx, ct, sv, er, fa, n, m, g, A, C, M0, O0, G, hn, hc, hs⟩ := R
  have hM := G.1
  have hL := G.2.1
  obtain ⟨n0, hn0, h70⟩ := Nn hL
  have K : QK h 33 55 L C.2.1.choose := AK_QK C.2.1.choose_spec hn0 h70
  have eg : g 8 = fa := G.2.2.2.2.1.2
  by_cases hv : fa = -1
  · skip
    have e := m138n r C.2.1.choose_spec hv
    have M2 := (fin_e C (Kp_rf h) M0 O0).1
    have ew := w276_1 (CPr_rv C r)  e
    have em := m235n h g A (hsx (h, r)).2 (p := 172) (by decide) (eg.trans hv)
    rw [M2] at em
    have rv1 := rvM h 172 g A (hsx (h, r)).2
    rw [M2] at rv1
    have et := m149 h (up g 9 1) A (hsx (h, r)).2 (p := 172)
    rw [up_eq] at et
    have rv2 := rvM h 172 (up g 9 1) A (hsx (h, r)).2
    obtain ⟨x, y, z, ez⟩ := z40 (i := i)   ew em et rv1 rv2 (fun q => absurd q (by decide)) l6 l7 l8
    exact ⟨x, y, z, _, ez, qe C M0 O0 G hn hc hs ht C (Kp_rf h) (fun k k9 _ => up_ne _ _ k9) (fun _ _ => rfl) (fun _ _ _ _ => rfl)⟩
  · skip
    have e := m138 r C.2.1.choose_spec hv
    obtain ⟨C2, M2, ⟨oo, ho⟩, fi⟩ := fin_v C (Kp_rf h) M0 O0 (fa : Int32).toInt64
    have ew := w276 (CPr_rv C r)   e ho
    have em := m235 (pu h 184 (103, [.long (fa : Int32).toInt64])) g A r (p := 172) (by decide) (fun z => hv (eg.symm.trans z))
    rw [M2, eg] at em
    have rv1 := rvM (pu h 184 (103, [.long (fa : Int32).toInt64])) 172 g A r
    rw [M2] at rv1
    have et := m149 (pu h 184 (103, [.long (fa : Int32).toInt64])) (up g 9 0) A r (p := 172)
    rw [up_eq] at et
    have rv2 := rvM (pu h 184 (103, [.long (fa : Int32).toInt64])) 172 (up g 9 0) A r
    obtain ⟨x, y, z, ez⟩ := z40 (i := i)   ew em et rv1 rv2 (fun _ => (fi _ _).2.2) l6 l7 l8
    exact ⟨x, y, z, _, ez, qv C M0 O0 G hn hc hs ht C (Kp_rf h) _ (fun k k9 _ => up_ne _ _ k9) (fun _ _ => rfl) (fun _ _ _ _ => rfl)⟩
theorem st7 (R : GR xs t (h, r)) (ht : t ≤ 511) (hl : xs.length ≤ 2048) (l6 l7 l8 : Value) : STP xs t i 688 l6 l7 l8 (h, r) := by
  obtain ⟨c, s, L, Sv, Hs, nx, ct, sv, er, fa, n, m, g, A, C, M0, O0, G, hn, hc, hs⟩ := R
  have hM := G.1
  have hL := G.2.1
  obtain ⟨n0, hn0, h70⟩ := Nn hL
  have K : QK h 33 55 L C.2.1.choose := AK_QK C.2.1.choose_spec hn0 h70
  have M2 := (fin_e C (Kp_rf h) M0 O0).1
  have e := q100 r K
  have em := u190 h g A r (p := 172) (by decide) hM
  rw [M2] at em
  have rv1 := rvM h 172 g A r
  rw [M2] at rv1
  obtain ⟨x, y, z, ez⟩ := z7 (i := i) (CPr_rv C r) e rv1 em l6 l7 l8
  exact ⟨x, y, z, _, ez, qn C M0 O0 G hn hc hs ht C (Kp_rf h) (fun k k9 _ => up_ne _ _ k9) (fun _ _ => rfl) (fun _ _ _ _ => rfl)⟩
theorem st16 (R : GR xs t (h, r)) (ht : t ≤ 511) (hl : xs.length ≤ 2048) (l6 l7 l8 : Value) : STP xs t i 1180 l6 l7 l8 (h, r) := by
  obtain ⟨c, s, L, Sv, Hs, nx, ct, sv, er, fa, n, m, g, A, C, M0, O0, G, hn, hc, hs⟩ := R
  have hM := G.1
  have hL := G.2.1
  obtain ⟨n0, hn0, h70⟩ := Nn hL
  have K : QK h 33 55 L C.2.1.choose := AK_QK C.2.1.choose_spec hn0 h70
  have M2 := (fin_e C (Kp_rf h) M0 O0).1
  have e := q111 r K
  have em := u199 h g A r (p := 172) (by decide) hM hL
  rw [M2] at em
  have rv1 := rvM h 172 g A r
  rw [M2] at rv1
  obtain ⟨x, y, z, ez⟩ := z16 (i := i) (CPr_rv C r) e rv1 em l6 l7 l8
  exact ⟨x, y, z, _, ez, qn C M0 O0 G hn hc hs ht C (Kp_rf h) (fun k k9 _ => up_ne _ _ k9) (fun _ _ => rfl) (fun _ _ _ _ => rfl)⟩
theorem st29 (R : GR xs t (h, r)) (ht : t ≤ 511) (hl : xs.length ≤ 2048) (l6 l7 l8 : Value) : STP xs t i 1805 l6 l7 l8 (h, r) := by
  obtain ⟨c, s, L, Sv, Hs, nx, ct, sv, er, fa, n, m, g, A, C, M0, O0, G, hn, hc, hs⟩ := R
  have hM := G.1
  have hL := G.2.1
  obtain ⟨n0, hn0, h70⟩ := Nn hL
  have K : QK h 33 55 L C.2.1.choose := AK_QK C.2.1.choose_spec hn0 h70
  have M2 := (fin_e C (Kp_rf h) M0 O0).1
  have e := q126 r K
  have em := u216 h g A r (p := 172) (by decide) hM
  rw [M2] at em
  have rv1 := rvM h 172 g A r
  rw [M2] at rv1
  obtain ⟨x, y, z, ez⟩ := z29 (i := i) (CPr_rv C r) e rv1 em l6 l7 l8
  exact ⟨x, y, z, _, ez, qn C M0 O0 G hn hc hs ht C (Kp_rf h) (fun k k9 _ => up_ne _ _ k9) (fun _ _ => rfl) (fun _ _ _ _ => rfl)⟩
theorem st30 (R : GR xs t (h, r)) (ht : t ≤ 511) (hl : xs.length ≤ 2048) (l6 l7 l8 : Value) : STP xs t i 1818 l6 l7 l8 (h, r) := by
  obtain ⟨c, s, L, Sv, Hs, nx, ct, sv, er, fa, n, m, g, A, C, M0, O0, G, hn, hc, hs⟩ := R
  have hM := G.1
  have hL := G.2.1
  obtain ⟨n0, hn0, h70⟩ := Nn hL
  have K : QK h 33 55 L C.2.1.choose := AK_QK C.2.1.choose_spec hn0 h70
  have M2 := (fin_e C (Kp_rf h) M0 O0).1
  have e := q127 r K
  have em := u217 h g A r (p := 172) (by decide) hM
  rw [M2] at em
  have rv1 := rvM h 172 g A r
  rw [M2] at rv1
  obtain ⟨x, y, z, ez⟩ := z30 (i := i) (CPr_rv C r) e rv1 em l6 l7 l8
  exact ⟨x, y, z, _, ez, qn C M0 O0 G hn hc hs ht C (Kp_rf h) (fun k k9 _ => up_ne _ _ k9) (fun _ _ => rfl) (fun _ _ _ _ => rfl)⟩
theorem st32 (R : GR xs t (h, r)) (ht : t ≤ 511) (hl : xs.length ≤ 2048) (l6 l7 l8 : Value) : STP xs t i 1875 l6 l7 l8 (h, r) := by
  obtain ⟨c, s, L, Sv, Hs, nx, ct, sv, er, fa, n, m, g, A, C, M0, O0, G, hn, hc, hs⟩ := R
  have hM := G.1
  have hL := G.2.1
  obtain ⟨n0, hn0, h70⟩ := Nn hL
  have K : QK h 33 55 L C.2.1.choose := AK_QK C.2.1.choose_spec hn0 h70
  have M2 := (fin_e C (Kp_rf h) M0 O0).1
  have e := q129 r K
  have em := u219 h g A r (p := 172) (by decide) hM
  rw [M2] at em
  have rv1 := rvM h 172 g A r
  rw [M2] at rv1
  obtain ⟨x, y, z, ez⟩ := z32 (i := i) (CPr_rv C r) e rv1 em l6 l7 l8
  exact ⟨x, y, z, _, ez, qn C M0 O0 G hn hc hs ht C (Kp_rf h) (fun k k9 _ => up_ne _ _ k9) (fun _ _ => rfl) (fun _ _ _ _ => rfl)⟩
theorem st17 (R : GR xs t (h, r)) (ht : t ≤ 511) (hl : xs.length ≤ 2048) {a0 : Int32} (s1 : xs[i + 1]? = some a0) (l6 l7 l8 : Value) : STP xs t i 1193 l6 l7 l8 (h, r) := by
  obtain ⟨c, s, L, Sv, Hs, nx, ct, sv, er, fa, n, m, g, A, C, M0, O0, G, hn, hc, hs⟩ := R
  have hM := G.1
  have hL := G.2.1
  obtain ⟨n0, hn0, h70⟩ := Nn hL
  have K : QK h 33 55 L C.2.1.choose := AK_QK C.2.1.choose_spec hn0 h70
  have M2 := (fin_e C (Kp_rf h) M0 O0).1
  have e := q112 r K a0
  have em := u200 h g A r (p := 172) (by decide) hM a0
  rw [M2] at em
  have rv1 := rvM h 172 g A r
  rw [M2] at rv1
  obtain ⟨x, y, z, ez⟩ := z17 (i := i) (sc_rd C hl s1 r) (sc_rd C hl s1 r) (CPr_rv C r) e rv1 em l6 l7 l8
  exact ⟨x, y, z, _, ez, qn C M0 O0 G hn hc hs ht C (Kp_rf h) (fun k k9 _ => up_ne _ _ k9) (fun _ _ => rfl) (fun _ _ _ _ => rfl)⟩
end STEP
