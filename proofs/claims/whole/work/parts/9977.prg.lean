/-! the calls of the program, both sides -/
section PRG
variable {xs : List Int32} {t i : Nat} {h : PH} {r : Nat × Nat × Nat}
theorem st37 (R : GR xs t (h, r)) (ht : t ≤ 511) (hl : xs.length ≤ 2048) {a0 : Int32} (s1 : xs[i + 1]? = some a0) (l6 l7 l8 : Value) : STP xs t i 2077 l6 l7 l8 (h, r) := by
  obtain ⟨c, s, L, Sv, Hs, nx, ct, sv, er, fa, n, m, g, A, C, M0, O0, G, hn, hc, hs⟩ := R
  obtain ⟨g11, n60⟩ := G.2.2.1
  have u1 := sc_rd C hl s1 r
  have nn := nar_nar a0
  obtain ⟨c0, ⟨Fc, ak⟩, ⟨j, kk, q, j7, qo, pa⟩, i0, B, x, sb, i3, mc, er', eq⟩ := id C
  by_cases c60 : n = 60
  · have e1 := m135n r ak pa c60 (a0.toUInt32 % 65536).toInt32
    have M2 := (fin_e C (Kp_rf h) M0 O0).1
    have ew := w273_1 (CPr_rv C r) _ e1
    have em := m224n h g A (hsx (h, r)).2 (p := 172) (by decide) (a0.toUInt32 % 65536).toInt32 (by rw [g11, c60]; rfl)
    rw [M2] at em
    have rv1 := rvM h 172 g A (hsx (h, r)).2
    rw [M2] at rv1
    have et := m149 h (up g 9 1) A (hsx (h, r)).2 (p := 172)
    rw [up_eq] at et
    have rv2 := rvM h 172 (up g 9 1) A (hsx (h, r)).2
    have t1 := sc_rd C hl s1 (hsx (h, r)).2
    obtain ⟨x, y, z, ez⟩ := z37 (i := i) u1 t1 ew em et rv1 rv2 (fun q => absurd q (by decide)) l6 l7 l8
    exact ⟨x, y, z, _, ez, qe C M0 O0 G hn hc hs ht C (Kp_rf h) (fun k k9 _ => up_ne _ _ k9) (fun _ _ => rfl) (fun _ _ _ _ => rfl)⟩
  · have n59 : n < 60 := by omega
    obtain ⟨e1, ak1⟩ := m135 r ak pa n59 (a0.toUInt32 % 65536).toInt32
    rw [nn] at e1 ak1
    have fr : ∀ b, b < 167 ∨ 170 ≤ b → PP h (up (A 6) n (a0.toUInt32 % 65536).toInt32) (5 + j) (n + 1) kk q b = h b := fun b hb => PP_o _ _ _ _ _ _ hb
    have pa1 := PAt_PP h (up (A 6) n (a0.toUInt32 % 65536).toInt32) (5 + j) (n + 1) kk q
    generalize PP h (up (A 6) n (a0.toUInt32 % 65536).toInt32) (5 + j) (n + 1) kk q = h1 at *
    have bi := bAd_in i0
    have C1 : CPr xs h1 r c s L Sv Hs nx ct sv er fa (up (A 6) n (a0.toUInt32 % 65536).toInt32) (n + 1) m (A 11) := ⟨by rw [fr 0 (Or.inl (by decide))]; exact c0, ⟨Fc, ak1⟩, ⟨j, kk, q, j7, qo, pa1⟩, i0, B, x, SB_frame sb (fun b hb => fr b (Or.inr (by omega))), i3, mc, er', eq⟩
    have kp : Kp h h1 := fun b b1 b2 => fr b (Or.inr (by omega))
    obtain ⟨C2, M2, ⟨oo, ho⟩, fi⟩ := fin_v C1 kp M0 O0 (I (n + 1) : Int32).toInt64
    have ew := w273 (CPr_rv C r) _ e1 ho
    have em := m224 (pu h1 184 (103, [.long (I (n + 1) : Int32).toInt64])) g A r (p := 172) (by decide) (a0.toUInt32 % 65536).toInt32 n59 g11
    rw [M2] at em
    have rv1 := rvM (pu h1 184 (103, [.long (I (n + 1) : Int32).toInt64])) 172 g A r
    rw [M2] at rv1
    have et := m149 (pu h1 184 (103, [.long (I (n + 1) : Int32).toInt64])) (up (up g 9 0) 11 (I (n + 1))) (ua A 6 (up (A 6) n (a0.toUInt32 % 65536).toInt32)) r (p := 172)
    rw [show up (up g 9 0) 11 (I (n + 1)) 9 = 0 by rw [up_ne _ _ (by decide), up_eq]] at et
    have rv2 := rvM (pu h1 184 (103, [.long (I (n + 1) : Int32).toInt64])) 172 (up (up g 9 0) 11 (I (n + 1))) (ua A 6 (up (A 6) n (a0.toUInt32 % 65536).toInt32)) r
    have t1 := sc_rd C2 hl s1 r
    obtain ⟨C3, O3, o3⟩ := fi (up (up g 9 0) 11 (I (n + 1))) (ua A 6 (up (A 6) n (a0.toUInt32 % 65536).toInt32))
    obtain ⟨x, y, z, ez⟩ := z37 (i := i) u1 t1 ew em et rv1 rv2 (fun _ => o3) l6 l7 l8
    refine ⟨x, y, z, _, ez, c, s, L, Sv, Hs, nx, ct, sv, er, fa, n + 1, m, _, _, ?_, MP_self _ _ _, O3, ?_, by omega, by omega, by omega⟩
    · rw [ua_eq, ua_ne _ _ (by decide)]
      exact C3
    · have eg : ∀ k, k ≠ 9 → k ≠ 11 → up (up g 9 0) 11 (I (n + 1)) k = g k := fun k k9 k11 => by rw [up_ne _ _ k11, up_ne _ _ k9]
      have eA : ∀ k, k ≠ 6 → ua A 6 (up (A 6) n (a0.toUInt32 % 65536).toInt32) k = A k := fun k k6 => ua_ne _ _ k6
      obtain ⟨b1, b2, b3, b4, b5, b6, b7, b8⟩ := GRm_up G (X' := 60 * (((t + 1 : Nat) : Int) - (n + 1 : Nat))) (N' := ((t + 1 : Nat) : Int) - (n + 1 : Nat)) (by push_cast; omega) (by push_cast; omega) (by push_cast; omega)
      exact ⟨by rw [eA 1 (by decide)]; exact b1, b2, ⟨up_eq _ _ _, n59⟩, ⟨by rw [eg 22 (by decide) (by decide)]; exact b4.1, b4.2.1, fun k hk => by rw [eA 11 (by decide)]; exact b4.2.2 k hk⟩, ⟨by rw [eg 7 (by decide) (by decide)]; exact b5.1, by rw [eg 8 (by decide) (by decide)]; exact b5.2⟩, by rw [eg 6 (by decide) (by decide)]; exact b6, ⟨by rw [eg 4 (by decide) (by decide)]; exact b7.1, b7.2.1, fun z => by rw [eA 4 (by decide)]; exact b7.2.2 z⟩, fun q hq => by rw [eA 5 (by decide)]; exact b8 q hq⟩
theorem GRm_run {L L' Sv : LN} {Hs Hs' : Nat → LN} {nx ct nx' ct' : Nat} {sv er fa er' fa' : Int32} {n m : Nat} {g g2 : Nat → Int32} {A A2 : Nat → Nat → Int32} {X N X' N' : Int} (G : GRm L Sv Hs nx ct sv er fa n m g A X N) (hX : X ≤ X') (h31 : X' ≤ 31100) (hN : N ≤ N') (kg : kgR g g2) (kA : kAR A A2) (hM : MRL (A2 1) L') (hL : FL X' N' L') (g7 : g2 7 = er') (g8 : g2 8 = fa') (g6 : g2 6 = I ct') (hh : ∀ q, q < ct' → MRL (fun y => A2 5 (76 * q + y)) (Hs' ((nx' + 9 - ct' + q) % 9)) ∧ FL X' N' (Hs' ((nx' + 9 - ct' + q) % 9))) : GRm L' Sv Hs' nx' ct' sv er' fa' 0 m g2 A2 X' N' := by
  obtain ⟨b1, b2, b3, b4, b5, b6, b7, b8⟩ := GRm_up G hX h31 hN
  obtain ⟨k4, k22, k11⟩ := kg
  obtain ⟨a4, a6, a11⟩ := kA
  exact ⟨hM, hL, ⟨k11, by decide⟩, ⟨by rw [k22]; exact b4.1, b4.2.1, fun k hk => by rw [a11]; exact b4.2.2 k hk⟩, ⟨g7, g8⟩, g6, ⟨by rw [k4]; exact b7.1, b7.2.1, fun z => by rw [a4]; exact b7.2.2 z⟩, hh⟩
theorem st38 (R : GR xs t (h, r)) (ht : t ≤ 511) (l6 l7 l8 : Value) : STP xs t i 2135 l6 l7 l8 (h, r) := by
  obtain ⟨c, s, L, Sv, Hs, nx, ct, sv, er, fa, n, m, g, A, C, M0, O0, G, hn, hc, hs⟩ := R
  have hM := G.1
  have hL := G.2.1
  obtain ⟨g11, n60⟩ := G.2.2.1
  have g6 := G.2.2.2.2.2.1
  have hG7 := G.2.2.2.2.1
  have hH := G.2.2.2.2.2.2.2
  obtain ⟨c0, ⟨Fc, ak⟩, ⟨j, kk, q, j7, qo, pa⟩, i0, B, x, sb, i3, mc, er', eq⟩ := id C
  have n9 : nx < 9 := ak.2.2.2.2.2.2.2.2.1
  have c8 : ct ≤ 8 := ak.2.2.2.2.2.2.2.2.2
  have hX : 60 * ((t : Int) - n) + 60 * n ≤ 31000 := by omega
  have hNN : ((t : Int) - n) + n ≤ 512 := by omega
  have h00 : 0 ≤ 60 * ((t : Int) - n) := by omega
  have hm := fun h' r' => m233 h' g r' (p := 172) (by decide) A (j := j) (s := q) g11 n60 g6 c8 hL h00 hX hNN hM
  have bi := bAd_in i0
  have rv := CPr_rv C r
  have hfr : ∀ {h1 : PH}, (∀ b, b = 0 ∨ 170 ≤ b → h1 b = h b) → (h1 0 = some (100, xs.map .int) ∧ sput h1 i0 m B x = h1 ∧ Kp h h1) := fun fr => ⟨by rw [fr 0 (Or.inl rfl)]; exact c0, SB_frame sb (fun b hb => fr b (Or.inr (by omega))), fun b b1 b2 => fr b (Or.inr (by omega))⟩
  by_cases c1 : (FE (A 6) n (5 + j) q).1 = -1
  · have hF : (FE (A 6) n (5 + j) q).2.1 ≤ n := by
      rcases hm h r with ⟨y, -⟩ | ⟨-, y, -⟩
      · exact absurd c1 y
      · exact y
    obtain ⟨j', h1, j'7, e1, ak1, pa1, fr1, fl1, jb, po⟩ := l136 r ak pa n60 qo c1 j7 hL h00 (by omega) (by omega)
    have hm' := fun h' r' => (hm h' r').resolve_left (fun y => y.1 c1) |>.2.2 j' j'7
    clear hm
    have wH : WS (Hs nx).2.2.2.2 := (ak.2.2.2.2.2.2.1 nx n9).2
    have wL : WS L.2.2.2.2 := ak.2.1.2
    have wR : WS (RN (A 6) n j' (FE (A 6) n (5 + j) q) L).2.2.2.2.2.2.2.2 := ak1.2.1.2
    generalize RN (A 6) n j' (FE (A 6) n (5 + j) q) L = W at *
    generalize FE (A 6) n (5 + j) q = F at *
    by_cases c2 : W.1 < 0
    · obtain ⟨h2, e2, ak2, fr2⟩ := e136b (i := I (F.2.1 - W.2.1)) r ak1 c2
      rw [e2] at e1
      have fr : ∀ b, b = 0 ∨ 170 ≤ b → h2 b = h b := fun b hb => (fr2 b (by omega)).trans (fr1 b hb)
      obtain ⟨f0, fS, kp⟩ := hfr fr
      have pa2 := PAt_frame pa1 (fun b b1 b2 => fr2 b (Or.inr b1))
      rw [if_pos rfl] at ak2
      have C1 : CPr xs h2 r c s (cpL W.2.2.2.2 (cpL (Hs nx) L)) Sv (fun i => if i = nx then cpL (Hs nx) L else Hs i) nx ct sv er (I (F.2.1 - W.2.1) - 1) (A 6) 0 m (A 11) := ⟨f0, ⟨Fc, ak2⟩, ⟨W.2.2.2.1, F.2.1, W.2.2.1, jb, po, pa2⟩, i0, B, x, fS, i3, mc, er', eq⟩
      obtain ⟨M2, O2, fi⟩ := fin_e C1 kp M0 O0
      have ew := w274_2 rv e1
      obtain ⟨-, g2, A2, em, kg, kA, y9, y6, y7, y8, y5, y1⟩ | ⟨y, -⟩ := hm' h2 (hsx (h2, r)).2
      · rw [M2] at em
        have rv1 := rvM h2 172 g A (hsx (h2, r)).2
        rw [M2] at rv1
        have et := m149 h2 g2 A2 (hsx (h2, r)).2 (p := 172)
        rw [y9] at et
        have rv2 := rvM h2 172 g2 A2 (hsx (h2, r)).2
        obtain ⟨x, y, z, ez⟩ := z38 (i := i) ew em et rv1 rv2 (fun q => absurd q (by decide)) l6 l7 l8
        obtain ⟨C3, O3⟩ := fi g2 A2
        have hMA := MRL_ext hM (a' := A2 1) y1
        refine ⟨x, y, z, _, ez, c + 1, s + 6, cpL W.2.2.2.2 (cpL (Hs nx) L), Sv, fun i => if i = nx then cpL (Hs nx) L else Hs i, nx, ct, sv, er, _, 0, m, g2, A2, ?_, MP_self _ _ _, O3, GRm_run G (by push_cast; omega) (by push_cast; omega) (by push_cast; omega) kg kA (MRL_cp wR (WS_cp wH wL) (MRL_cp wH wL hMA)) (FL_mono (FL_cp wR (FL_cp wH hL)) (by push_cast; omega) (by push_cast; omega) (by push_cast; omega)) (by rw [y7]; exact hG7.1) y8 (y6.trans g6) ?_, by omega, by omega, by omega⟩
        · rw [kA.2.1, kA.2.2]
          exact CPr_r C3
        · intro q hq
          have en : ¬ (nx + 9 - ct + q) % 9 = nx := by omega
          rw [y5]
          simp only [if_neg en]
          exact ⟨(hH q hq).1, FL_mono (hH q hq).2 (by push_cast; omega) (by push_cast; omega) (by push_cast; omega)⟩
      · exact absurd c2 y
    · obtain ⟨h2, e2, ak2, fr2⟩ := e136c (i := I (F.2.1 - W.2.1)) r ak1 c2
      rw [e2] at e1
      have fr : ∀ b, b = 0 ∨ 170 ≤ b → h2 b = h b := fun b hb => (fr2 b (by omega)).trans (fr1 b hb)
      obtain ⟨f0, fS, kp⟩ := hfr fr
      have pa2 := PAt_frame pa1 (fun b b1 b2 => fr2 b (Or.inr b1))
      have C1 : CPr xs h2 r c s W.2.2.2.2 Sv (fun i => if i = nx then cpL (Hs nx) L else Hs i) ((nx + 1) % 9) (min (ct + 1) 8) sv er fa (A 6) 0 m (A 11) := ⟨f0, ⟨Fc, ak2⟩, ⟨W.2.2.2.1, F.2.1, W.2.2.1, jb, po, pa2⟩, i0, B, x, fS, i3, mc, er', eq⟩
      have y0 : W.2.1 = 0 := by
        rcases hm' h r with ⟨y, -⟩ | ⟨-, y, -⟩
        · exact absurd y c2
        · exact y
      rw [y0, Nat.sub_zero] at e1
      obtain ⟨C2, M2, ⟨oo, ho⟩, fi⟩ := fin_v C1 kp M0 O0 (I F.2.1 : Int32).toInt64
      have ew := w274 rv e1 ho
      obtain ⟨y, -⟩ | ⟨-, -, g2, A2, em, kg, kA, y9, y6, y7, y8, y5, y1⟩ := hm' (pu h2 184 (103, [.long (I F.2.1 : Int32).toInt64])) r
      · exact absurd y c2
      · rw [M2] at em
        have rv1 := rvM (pu h2 184 (103, [.long (I F.2.1 : Int32).toInt64])) 172 g A r
        rw [M2] at rv1
        have et := m149 (pu h2 184 (103, [.long (I F.2.1 : Int32).toInt64])) g2 A2 r (p := 172)
        rw [y9] at et
        have rv2 := rvM (pu h2 184 (103, [.long (I F.2.1 : Int32).toInt64])) 172 g2 A2 r
        obtain ⟨C3, O3, o3⟩ := fi g2 A2
        obtain ⟨x, y, z, ez⟩ := z38 (i := i) ew em et rv1 rv2 (fun _ => o3) l6 l7 l8
        refine ⟨x, y, z, _, ez, c, s, W.2.2.2.2, Sv, fun i => if i = nx then cpL (Hs nx) L else Hs i, (nx + 1) % 9, min (ct + 1) 8, sv, er, fa, 0, m, g2, A2, ?_, MP_self _ _ _, O3, GRm_run G (by push_cast; omega) (by push_cast; omega) (by push_cast; omega) kg kA y1 (FL_mono fl1 (by push_cast; omega) (by push_cast; omega) (by push_cast; omega)) (by rw [y7]; exact hG7.1) (by rw [y8]; exact hG7.2) y6 ?_, by omega, by omega, by omega⟩
        · rw [kA.2.1, kA.2.2]
          exact C3
        · rw [y5]
          exact hist_push n9 c8 (MRL_ext (MRL_cp wH wL hM) (fun y hy => cpA_lt _ _ hy)) (FL_mono (FL_cp wH hL) (by push_cast; omega) (by push_cast; omega) (by push_cast; omega)) (fun q hq => ⟨(hH q hq).1, FL_mono (hH q hq).2 (by push_cast; omega) (by push_cast; omega) (by push_cast; omega)⟩)
  · obtain ⟨h2, e1, ak2, pa2, fr⟩ := m136a r ak pa n60 qo c1
    obtain ⟨fk, fo, j', fj, fc⟩ := feL_ok (T := A 6) n60 60 0 j (0, q.2) ⟨Nat.zero_le _, qo.2⟩ j7 (by decide)
    change (FE (A 6) n (5 + j) q).2.1 ≤ 60 at fk
    change psOk (FE (A 6) n (5 + j) q).2.2.1 at fo
    change (FE (A 6) n (5 + j) q).2.2.2 = 5 + j' at fc
    generalize FE (A 6) n (5 + j) q = F at *
    obtain ⟨f0, fS, kp⟩ := hfr fr
    rw [fc] at pa2
    have C1 : CPr xs h2 r c s L Sv Hs nx ct sv F.1 fa (A 6) 0 m (A 11) := ⟨f0, ⟨Fc, ak2⟩, ⟨j', F.2.1, F.2.2.1, fj, fo, pa2⟩, i0, B, x, fS, i3, mc, er', eq⟩
    obtain ⟨M2, O2, fi⟩ := fin_e C1 kp M0 O0
    have ew := w274_1 rv e1
    obtain ⟨-, g2, A2, em, kg, kA, y9, y6, y7, y8, y5, y1⟩ | ⟨y, -⟩ := hm h2 (hsx (h2, r)).2
    · rw [M2] at em
      have rv1 := rvM h2 172 g A (hsx (h2, r)).2
      rw [M2] at rv1
      have et := m149 h2 g2 A2 (hsx (h2, r)).2 (p := 172)
      rw [y9] at et
      have rv2 := rvM h2 172 g2 A2 (hsx (h2, r)).2
      obtain ⟨x, y, z, ez⟩ := z38 (i := i) ew em et rv1 rv2 (fun q => absurd q (by decide)) l6 l7 l8
      obtain ⟨C3, O3⟩ := fi g2 A2
      refine ⟨x, y, z, _, ez, c + 1, s + 6, L, Sv, Hs, nx, ct, sv, F.1, fa, 0, m, g2, A2, ?_, MP_self _ _ _, O3, GRm_run G (by push_cast; omega) (by push_cast; omega) (by push_cast; omega) kg kA (by rw [y1]; exact hM) (FL_mono hL (by push_cast; omega) (by push_cast; omega) (by push_cast; omega)) y7 (by rw [y8]; exact hG7.2) (y6.trans g6) ?_, by omega, by omega, by omega⟩
      · rw [kA.2.1, kA.2.2]
        exact CPr_r C3
      · intro q hq
        rw [y5]
        exact ⟨(hH q hq).1, FL_mono (hH q hq).2 (by push_cast; omega) (by push_cast; omega) (by push_cast; omega)⟩
    · exact absurd y c1
end PRG
