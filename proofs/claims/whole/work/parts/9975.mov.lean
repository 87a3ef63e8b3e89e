/-! the law's calls that change, foresee, take back, save, restore, append, both sides -/
section STEP2
variable {xs : List Int32} {t i : Nat} {h : PH} {r : Nat × Nat × Nat}
theorem GR_rv (R : GR xs t (h, r)) : recv (h, r) 32 0 = true := by
  obtain ⟨c, s, L, Sv, Hs, nx, ct, sv, er, fa, n, m, g, A, C, -⟩ := R
  exact CPr_rv C r
theorem GR_0 (R : GR xs t (h, r)) : h 0 = some (100, xs.map .int) := by
  obtain ⟨c, s, L, Sv, Hs, nx, ct, sv, er, fa, n, m, g, A, C, -⟩ := R
  exact C.1
theorem sc_rd0 {h : PH} (e0 : h 0 = some (100, xs.map .int)) (hl : xs.length ≤ 2048) {j : Nat} {a : Int32} (e : xs[j]? = some a) (r' : Nat × Nat × Nat) : ald (h, r') 100 0 (I j) = some (.int a) := by
  have hj : j < xs.length := (List.getElem?_eq_some_iff.mp e).1
  unfold ald
  simp only [e0, List.length_map]
  rw [if_pos ⟨trivial, fun q => q.elim (I_nn (by omega)) (fun q => by rw [I_nat (by omega)] at q; omega), by omega⟩, I_nat (by omega), List.getElem?_map, e]
  rfl
theorem st0 (R : GR xs t (h, r)) (ht : t ≤ 511) (hl : xs.length ≤ 2048) {a0 a1 : Int32} (s1 : xs[i + 1]? = some a0) (s2 : xs[i + 2]? = some a1) (l6 l7 l8 : Value) : STP xs t i 248 l6 l7 l8 (h, r) := by
  have rv := GR_rv R
  have h0 := GR_0 R
  have u1 := sc_rd0 h0 hl s1 r
  have u2 := sc_rd0 h0 hl s2 r
  obtain ⟨e, h1, g, g', A, A', q1, q2, q3, q4, q5, q6, q7⟩ | ⟨v, h1, g, g', A, A', oo, q1, q2, q3, q4, q5, q8, q6, q7⟩ := chg R ht (c := 0) (by decide) a0 a1 0
  · have rv1 := rvM h1 172 g A (hsx (h1, r)).2
    rw [q3] at rv1 q4
    have et := m149 h1 g' A' (hsx (h1, r)).2 (p := 172)
    rw [q5] at et
    have rv2 := rvM h1 172 g' A' (hsx (h1, r)).2
    have t1 := sc_rd0 (q7.trans h0) hl s1 (hsx (h1, r)).2
    have t2 := sc_rd0 (q7.trans h0) hl s2 (hsx (h1, r)).2
    obtain q | q := q1
    · skip
      rw [q] at q2 et
      rw [show excR (-2) = 1 by decide] at q2
      rw [show thr 0 (-2) = 1 by decide] at et
      have ew := w244_1 rv a0 a1 (m91n rv a0 a1 q2)
      obtain ⟨x, y, z, ez⟩ := z0 (i := i) u1 t1 u2 t2 ew q4 et rv1 rv2 (fun q => absurd q (by decide)) l6 l7 l8
      exact ⟨x, y, z, _, ez, q6⟩
    · skip
      rw [q] at q2 et
      rw [show excR (-3) = 2 by decide] at q2
      rw [show thr 0 (-3) = 2 by decide] at et
      have ew := w244_2 rv a0 a1 (m91n rv a0 a1 q2)
      obtain ⟨x, y, z, ez⟩ := z0 (i := i) u1 t1 u2 t2 ew q4 et rv1 rv2 (fun q => absurd q (by decide)) l6 l7 l8
      exact ⟨x, y, z, _, ez, q6⟩
  · have rv1 := rvM (pu h1 184 (103, [.long v.toInt64])) 172 g A r
    rw [q3] at rv1 q4
    have et := m149 (pu h1 184 (103, [.long v.toInt64])) g' A' r (p := 172)
    rw [q5] at et
    have rv2 := rvM (pu h1 184 (103, [.long v.toInt64])) 172 g' A' r
    have hp0 : pu h1 184 (103, [.long v.toInt64]) 0 = some (100, xs.map .int) := by
      rw [show pu h1 184 (103, [.long v.toInt64]) 0 = h1 0 by simp [pu], q7]; exact h0
    have t1 := sc_rd0 hp0 hl s1 r
    have t2 := sc_rd0 hp0 hl s2 r
    have ew := w244 rv a0 a1 (m91 rv a0 a1 q1) q2
    obtain ⟨x, y, z, ez⟩ := z0 (i := i) u1 t1 u2 t2 ew q4 et rv1 rv2 (fun _ => q8) l6 l7 l8
    exact ⟨x, y, z, _, ez, q6⟩
theorem st1 (R : GR xs t (h, r)) (ht : t ≤ 511) (hl : xs.length ≤ 2048) {a0 a1 : Int32} (s1 : xs[i + 1]? = some a0) (s2 : xs[i + 2]? = some a1) (l6 l7 l8 : Value) : STP xs t i 316 l6 l7 l8 (h, r) := by
  have rv := GR_rv R
  have h0 := GR_0 R
  have u1 := sc_rd0 h0 hl s1 r
  have u2 := sc_rd0 h0 hl s2 r
  obtain ⟨e, h1, g, g', A, A', q1, q2, q3, q4, q5, q6, q7⟩ | ⟨v, h1, g, g', A, A', oo, q1, q2, q3, q4, q5, q8, q6, q7⟩ := chg R ht (c := 1) (by decide) a0 a1 0
  · have rv1 := rvM h1 172 g A (hsx (h1, r)).2
    rw [q3] at rv1 q4
    have et := m149 h1 g' A' (hsx (h1, r)).2 (p := 172)
    rw [q5] at et
    have rv2 := rvM h1 172 g' A' (hsx (h1, r)).2
    have t1 := sc_rd0 (q7.trans h0) hl s1 (hsx (h1, r)).2
    have t2 := sc_rd0 (q7.trans h0) hl s2 (hsx (h1, r)).2
    obtain q | q | q := q1
    · skip
      rw [q] at q2 et
      rw [show excR (-1) = 0 by decide] at q2
      rw [show thr 1 (-1) = 1 by decide] at et
      have ew := w245_1 rv a0 a1 (m92n rv a0 a1 q2)
      obtain ⟨x, y, z, ez⟩ := z1 (i := i) u1 t1 u2 t2 ew q4 et rv1 rv2 (fun q => absurd q (by decide)) l6 l7 l8
      exact ⟨x, y, z, _, ez, q6⟩
    · skip
      rw [q] at q2 et
      rw [show excR (-2) = 1 by decide] at q2
      rw [show thr 1 (-2) = 2 by decide] at et
      have ew := w245_2 rv a0 a1 (m92n rv a0 a1 q2)
      obtain ⟨x, y, z, ez⟩ := z1 (i := i) u1 t1 u2 t2 ew q4 et rv1 rv2 (fun q => absurd q (by decide)) l6 l7 l8
      exact ⟨x, y, z, _, ez, q6⟩
    · skip
      rw [q] at q2 et
      rw [show excR (-3) = 2 by decide] at q2
      rw [show thr 1 (-3) = 3 by decide] at et
      have ew := w245_3 rv a0 a1 (m92n rv a0 a1 q2)
      obtain ⟨x, y, z, ez⟩ := z1 (i := i) u1 t1 u2 t2 ew q4 et rv1 rv2 (fun q => absurd q (by decide)) l6 l7 l8
      exact ⟨x, y, z, _, ez, q6⟩
  · have rv1 := rvM (pu h1 184 (103, [.long v.toInt64])) 172 g A r
    rw [q3] at rv1 q4
    have et := m149 (pu h1 184 (103, [.long v.toInt64])) g' A' r (p := 172)
    rw [q5] at et
    have rv2 := rvM (pu h1 184 (103, [.long v.toInt64])) 172 g' A' r
    have hp0 : pu h1 184 (103, [.long v.toInt64]) 0 = some (100, xs.map .int) := by
      rw [show pu h1 184 (103, [.long v.toInt64]) 0 = h1 0 by simp [pu], q7]; exact h0
    have t1 := sc_rd0 hp0 hl s1 r
    have t2 := sc_rd0 hp0 hl s2 r
    have ew := w245 rv a0 a1 (m92 rv a0 a1 q1) q2
    obtain ⟨x, y, z, ez⟩ := z1 (i := i) u1 t1 u2 t2 ew q4 et rv1 rv2 (fun _ => q8) l6 l7 l8
    exact ⟨x, y, z, _, ez, q6⟩
theorem st2 (R : GR xs t (h, r)) (ht : t ≤ 511) (hl : xs.length ≤ 2048) {a0 a1 a2 : Int32} (s1 : xs[i + 1]? = some a0) (s2 : xs[i + 2]? = some a1) (s3 : xs[i + 3]? = some a2) (l6 l7 l8 : Value) : STP xs t i 384 l6 l7 l8 (h, r) := by
  have rv := GR_rv R
  have h0 := GR_0 R
  have u1 := sc_rd0 h0 hl s1 r
  have u2 := sc_rd0 h0 hl s2 r
  have u3 := sc_rd0 h0 hl s3 r
  obtain ⟨e, h1, g, g', A, A', q1, q2, q3, q4, q5, q6, q7⟩ | ⟨v, h1, g, g', A, A', oo, q1, q2, q3, q4, q5, q8, q6, q7⟩ := chg R ht (c := 2) (by decide) a0 a1 a2
  · have rv1 := rvM h1 172 g A (hsx (h1, r)).2
    rw [q3] at rv1 q4
    have et := m149 h1 g' A' (hsx (h1, r)).2 (p := 172)
    rw [q5] at et
    have rv2 := rvM h1 172 g' A' (hsx (h1, r)).2
    have t1 := sc_rd0 (q7.trans h0) hl s1 (hsx (h1, r)).2
    have t2 := sc_rd0 (q7.trans h0) hl s2 (hsx (h1, r)).2
    have t3 := sc_rd0 (q7.trans h0) hl s3 (hsx (h1, r)).2
    obtain q | q | q := q1
    · skip
      rw [q] at q2 et
      rw [show excR (-1) = 0 by decide] at q2
      rw [show thr 2 (-1) = 1 by decide] at et
      have ew := w246_1 rv a0 a1 a2 (m93n rv a0 a1 a2 q2)
      obtain ⟨x, y, z, ez⟩ := z2 (i := i) u1 t1 u2 t2 u3 t3 ew q4 et rv1 rv2 (fun q => absurd q (by decide)) l6 l7 l8
      exact ⟨x, y, z, _, ez, q6⟩
    · skip
      rw [q] at q2 et
      rw [show excR (-2) = 1 by decide] at q2
      rw [show thr 2 (-2) = 2 by decide] at et
      have ew := w246_2 rv a0 a1 a2 (m93n rv a0 a1 a2 q2)
      obtain ⟨x, y, z, ez⟩ := z2 (i := i) u1 t1 u2 t2 u3 t3 ew q4 et rv1 rv2 (fun q => absurd q (by decide)) l6 l7 l8
      exact ⟨x, y, z, _, ez, q6⟩
    · skip
      rw [q] at q2 et
      rw [show excR (-3) = 2 by decide] at q2
      rw [show thr 2 (-3) = 3 by decide] at et
      have ew := w246_3 rv a0 a1 a2 (m93n rv a0 a1 a2 q2)
      obtain ⟨x, y, z, ez⟩ := z2 (i := i) u1 t1 u2 t2 u3 t3 ew q4 et rv1 rv2 (fun q => absurd q (by decide)) l6 l7 l8
      exact ⟨x, y, z, _, ez, q6⟩
  · have rv1 := rvM (pu h1 184 (103, [.long v.toInt64])) 172 g A r
    rw [q3] at rv1 q4
    have et := m149 (pu h1 184 (103, [.long v.toInt64])) g' A' r (p := 172)
    rw [q5] at et
    have rv2 := rvM (pu h1 184 (103, [.long v.toInt64])) 172 g' A' r
    have hp0 : pu h1 184 (103, [.long v.toInt64]) 0 = some (100, xs.map .int) := by
      rw [show pu h1 184 (103, [.long v.toInt64]) 0 = h1 0 by simp [pu], q7]; exact h0
    have t1 := sc_rd0 hp0 hl s1 r
    have t2 := sc_rd0 hp0 hl s2 r
    have t3 := sc_rd0 hp0 hl s3 r
    have ew := w246 rv a0 a1 a2 (m93 rv a0 a1 a2 q1) q2
    obtain ⟨x, y, z, ez⟩ := z2 (i := i) u1 t1 u2 t2 u3 t3 ew q4 et rv1 rv2 (fun _ => q8) l6 l7 l8
    exact ⟨x, y, z, _, ez, q6⟩
theorem st3 (R : GR xs t (h, r)) (ht : t ≤ 511) (hl : xs.length ≤ 2048) {a0 : Int32} (s1 : xs[i + 1]? = some a0) (l6 l7 l8 : Value) : STP xs t i 464 l6 l7 l8 (h, r) := by
  have rv := GR_rv R
  have h0 := GR_0 R
  have u1 := sc_rd0 h0 hl s1 r
  obtain ⟨e, h1, g, g', A, A', q1, q2, q3, q4, q5, q6, q7⟩ | ⟨v, h1, g, g', A, A', oo, q1, q2, q3, q4, q5, q8, q6, q7⟩ := chg R ht (c := 3) (by decide) a0 0 0
  · have rv1 := rvM h1 172 g A (hsx (h1, r)).2
    rw [q3] at rv1 q4
    have et := m149 h1 g' A' (hsx (h1, r)).2 (p := 172)
    rw [q5] at et
    have rv2 := rvM h1 172 g' A' (hsx (h1, r)).2
    have t1 := sc_rd0 (q7.trans h0) hl s1 (hsx (h1, r)).2
    obtain q | q := q1
    · skip
      rw [q] at q2 et
      rw [show excR (-4) = 3 by decide] at q2
      rw [show thr 3 (-4) = 1 by decide] at et
      have ew := w247_1 rv a0 (m94n rv a0 q2)
      obtain ⟨x, y, z, ez⟩ := z3 (i := i) u1 t1 ew q4 et rv1 rv2 (fun q => absurd q (by decide)) l6 l7 l8
      exact ⟨x, y, z, _, ez, q6⟩
    · skip
      rw [q] at q2 et
      rw [show excR (-3) = 2 by decide] at q2
      rw [show thr 3 (-3) = 2 by decide] at et
      have ew := w247_2 rv a0 (m94n rv a0 q2)
      obtain ⟨x, y, z, ez⟩ := z3 (i := i) u1 t1 ew q4 et rv1 rv2 (fun q => absurd q (by decide)) l6 l7 l8
      exact ⟨x, y, z, _, ez, q6⟩
  · have rv1 := rvM (pu h1 184 (103, [.long v.toInt64])) 172 g A r
    rw [q3] at rv1 q4
    have et := m149 (pu h1 184 (103, [.long v.toInt64])) g' A' r (p := 172)
    rw [q5] at et
    have rv2 := rvM (pu h1 184 (103, [.long v.toInt64])) 172 g' A' r
    have hp0 : pu h1 184 (103, [.long v.toInt64]) 0 = some (100, xs.map .int) := by
      rw [show pu h1 184 (103, [.long v.toInt64]) 0 = h1 0 by simp [pu], q7]; exact h0
    have t1 := sc_rd0 hp0 hl s1 r
    have ew := w247 rv a0 (m94 rv a0 q1) q2
    obtain ⟨x, y, z, ez⟩ := z3 (i := i) u1 t1 ew q4 et rv1 rv2 (fun _ => q8) l6 l7 l8
    exact ⟨x, y, z, _, ez, q6⟩
theorem st4 (R : GR xs t (h, r)) (ht : t ≤ 511) (hl : xs.length ≤ 2048) {a0 : Int32} (s1 : xs[i + 1]? = some a0) (l6 l7 l8 : Value) : STP xs t i 520 l6 l7 l8 (h, r) := by
  have rv := GR_rv R
  have h0 := GR_0 R
  have u1 := sc_rd0 h0 hl s1 r
  obtain ⟨e, h1, g, g', A, A', q1, q2, q3, q4, q5, q6, q7⟩ | ⟨v, h1, g, g', A, A', oo, q1, q2, q3, q4, q5, q8, q6, q7⟩ := chg R ht (c := 4) (by decide) a0 0 0
  · have rv1 := rvM h1 172 g A (hsx (h1, r)).2
    rw [q3] at rv1 q4
    have et := m149 h1 g' A' (hsx (h1, r)).2 (p := 172)
    rw [q5] at et
    have rv2 := rvM h1 172 g' A' (hsx (h1, r)).2
    have t1 := sc_rd0 (q7.trans h0) hl s1 (hsx (h1, r)).2
    obtain q | q := q1
    · skip
      rw [q] at q2 et
      rw [show excR (-4) = 3 by decide] at q2
      rw [show thr 4 (-4) = 1 by decide] at et
      have ew := w248_1 rv a0 (m95n rv a0 q2)
      obtain ⟨x, y, z, ez⟩ := z4 (i := i) u1 t1 ew q4 et rv1 rv2 (fun q => absurd q (by decide)) l6 l7 l8
      exact ⟨x, y, z, _, ez, q6⟩
    · skip
      rw [q] at q2 et
      rw [show excR (-3) = 2 by decide] at q2
      rw [show thr 4 (-3) = 2 by decide] at et
      have ew := w248_2 rv a0 (m95n rv a0 q2)
      obtain ⟨x, y, z, ez⟩ := z4 (i := i) u1 t1 ew q4 et rv1 rv2 (fun q => absurd q (by decide)) l6 l7 l8
      exact ⟨x, y, z, _, ez, q6⟩
  · have rv1 := rvM (pu h1 184 (103, [.long v.toInt64])) 172 g A r
    rw [q3] at rv1 q4
    have et := m149 (pu h1 184 (103, [.long v.toInt64])) g' A' r (p := 172)
    rw [q5] at et
    have rv2 := rvM (pu h1 184 (103, [.long v.toInt64])) 172 g' A' r
    have hp0 : pu h1 184 (103, [.long v.toInt64]) 0 = some (100, xs.map .int) := by
      rw [show pu h1 184 (103, [.long v.toInt64]) 0 = h1 0 by simp [pu], q7]; exact h0
    have t1 := sc_rd0 hp0 hl s1 r
    have ew := w248 rv a0 (m95 rv a0 q1) q2
    obtain ⟨x, y, z, ez⟩ := z4 (i := i) u1 t1 ew q4 et rv1 rv2 (fun _ => q8) l6 l7 l8
    exact ⟨x, y, z, _, ez, q6⟩
theorem st5 (R : GR xs t (h, r)) (ht : t ≤ 511) (hl : xs.length ≤ 2048) {a0 : Int32} (s1 : xs[i + 1]? = some a0) (l6 l7 l8 : Value) : STP xs t i 576 l6 l7 l8 (h, r) := by
  have rv := GR_rv R
  have h0 := GR_0 R
  have u1 := sc_rd0 h0 hl s1 r
  obtain ⟨e, h1, g, g', A, A', q1, q2, q3, q4, q5, q6, q7⟩ | ⟨v, h1, g, g', A, A', oo, q1, q2, q3, q4, q5, q8, q6, q7⟩ := chg R ht (c := 5) (by decide) a0 0 0
  · have rv1 := rvM h1 172 g A (hsx (h1, r)).2
    rw [q3] at rv1 q4
    have et := m149 h1 g' A' (hsx (h1, r)).2 (p := 172)
    rw [q5] at et
    have rv2 := rvM h1 172 g' A' (hsx (h1, r)).2
    have t1 := sc_rd0 (q7.trans h0) hl s1 (hsx (h1, r)).2
    obtain q | q := q1
    · skip
      rw [q] at q2 et
      rw [show excR (-4) = 3 by decide] at q2
      rw [show thr 5 (-4) = 1 by decide] at et
      have ew := w249_1 rv a0 (m96n rv a0 q2)
      obtain ⟨x, y, z, ez⟩ := z5 (i := i) u1 t1 ew q4 et rv1 rv2 (fun q => absurd q (by decide)) l6 l7 l8
      exact ⟨x, y, z, _, ez, q6⟩
    · skip
      rw [q] at q2 et
      rw [show excR (-3) = 2 by decide] at q2
      rw [show thr 5 (-3) = 2 by decide] at et
      have ew := w249_2 rv a0 (m96n rv a0 q2)
      obtain ⟨x, y, z, ez⟩ := z5 (i := i) u1 t1 ew q4 et rv1 rv2 (fun q => absurd q (by decide)) l6 l7 l8
      exact ⟨x, y, z, _, ez, q6⟩
  · have rv1 := rvM (pu h1 184 (103, [.long v.toInt64])) 172 g A r
    rw [q3] at rv1 q4
    have et := m149 (pu h1 184 (103, [.long v.toInt64])) g' A' r (p := 172)
    rw [q5] at et
    have rv2 := rvM (pu h1 184 (103, [.long v.toInt64])) 172 g' A' r
    have hp0 : pu h1 184 (103, [.long v.toInt64]) 0 = some (100, xs.map .int) := by
      rw [show pu h1 184 (103, [.long v.toInt64]) 0 = h1 0 by simp [pu], q7]; exact h0
    have t1 := sc_rd0 hp0 hl s1 r
    have ew := w249 rv a0 (m96 rv a0 q1) q2
    obtain ⟨x, y, z, ez⟩ := z5 (i := i) u1 t1 ew q4 et rv1 rv2 (fun _ => q8) l6 l7 l8
    exact ⟨x, y, z, _, ez, q6⟩
theorem st6 (R : GR xs t (h, r)) (ht : t ≤ 511) (hl : xs.length ≤ 2048) {a0 : Int32} (s1 : xs[i + 1]? = some a0) (l6 l7 l8 : Value) : STP xs t i 632 l6 l7 l8 (h, r) := by
  have rv := GR_rv R
  have h0 := GR_0 R
  have u1 := sc_rd0 h0 hl s1 r
  obtain ⟨e, h1, g, g', A, A', q1, q2, q3, q4, q5, q6, q7⟩ | ⟨v, h1, g, g', A, A', oo, q1, q2, q3, q4, q5, q8, q6, q7⟩ := chg R ht (c := 6) (by decide) a0 0 0
  · have rv1 := rvM h1 172 g A (hsx (h1, r)).2
    rw [q3] at rv1 q4
    have et := m149 h1 g' A' (hsx (h1, r)).2 (p := 172)
    rw [q5] at et
    have rv2 := rvM h1 172 g' A' (hsx (h1, r)).2
    have t1 := sc_rd0 (q7.trans h0) hl s1 (hsx (h1, r)).2
    have q : e = -2 := q1
    rw [q] at q2 et
    rw [show excR (-2) = 1 by decide] at q2
    rw [show thr 6 (-2) = 1 by decide] at et
    have ew := w250_1 rv a0 (m97n rv a0 q2)
    obtain ⟨x, y, z, ez⟩ := z6 (i := i) u1 t1 ew q4 et rv1 rv2 (fun q => absurd q (by decide)) l6 l7 l8
    exact ⟨x, y, z, _, ez, q6⟩
  · have rv1 := rvM (pu h1 184 (103, [.long v.toInt64])) 172 g A r
    rw [q3] at rv1 q4
    have et := m149 (pu h1 184 (103, [.long v.toInt64])) g' A' r (p := 172)
    rw [q5] at et
    have rv2 := rvM (pu h1 184 (103, [.long v.toInt64])) 172 g' A' r
    have hp0 : pu h1 184 (103, [.long v.toInt64]) 0 = some (100, xs.map .int) := by
      rw [show pu h1 184 (103, [.long v.toInt64]) 0 = h1 0 by simp [pu], q7]; exact h0
    have t1 := sc_rd0 hp0 hl s1 r
    have ew := w250 rv a0 (m97 rv a0 q1) q2
    obtain ⟨x, y, z, ez⟩ := z6 (i := i) u1 t1 ew q4 et rv1 rv2 (fun _ => q8) l6 l7 l8
    exact ⟨x, y, z, _, ez, q6⟩
theorem CPr_fore {c s : Nat} {L Sv : LN} {Hs : Nat → LN} {nx ct : Nat} {sv er fa : Int32} {T : Nat → Int32} {n m : Nat} {f : Nat → Int32} (C : CPr xs h r c s L Sv Hs nx ct sv er fa T n m f) {F' : LN} (w : WS F'.2.2.2.2) : CPr xs (putL h 55 F') r c s L Sv Hs nx ct sv er fa T n m f ∧ Kp h (putL h 55 F') :=
  CPr_of C (AK_fore (k := C.2.1.choose_spec) w) (fun b hb => putL_out h w (by omega))
theorem any_snd {S1 S2 : List SL} (e : S1.map Prod.snd = S2.map Prod.snd) (v : Int32) : (S1.find? (fndP v)).isSome = (S2.find? (fndP v)).isSome := by
  have f : ∀ S : List SL, (S.find? (fndP v)).isSome = (S.map Prod.snd).any fun t => decide (t.1 ≠ 1) && decide (t.2 1 = v) := by
    intro S
    induction S with
    | nil => rfl
    | cons s S ih =>
      rw [List.find?_cons, List.map_cons, List.any_cons]
      by_cases c : fndP v s = true
      · rw [c]
        have c' : (decide (s.2.1 ≠ 1) && decide (s.2.2 1 = v)) = true := c
        rw [c']; rfl
      · have c2 : fndP v s = false := by simpa using c
        rw [c2]
        have c' : (decide (s.2.1 ≠ 1) && decide (s.2.2 1 = v)) = false := c2
        rw [c', Bool.false_or]
        exact ih
  rw [f, f, e]
theorem st25 (R : GR xs t (h, r)) (ht : t ≤ 511) (hl : xs.length ≤ 2048) {a0 : Int32} (s1 : xs[i + 1]? = some a0) (l6 l7 l8 : Value) : STP xs t i 1624 l6 l7 l8 (h, r) := by
  obtain ⟨c, s, L, Sv, Hs, nx, ct, sv, er, fa, n, m, g, A, C, M0, O0, G, hn, hc, hs⟩ := R
  have hM := G.1
  have hL := G.2.1
  obtain ⟨n0, hn0, h70⟩ := Nn hL
  have K : QK h 33 55 L C.2.1.choose := AK_QK C.2.1.choose_spec hn0 h70
  have u1 := sc_rd C hl s1 r
  have ex : ∀ (k : Int32), k = 1 ∨ k = 2 → rcal 266 [.ref 32, .int a0, .ref 184] (h, r) = some (.inl (some (.int k)), hsx (h, r)) → rcal 210 [.ref 172, .int a0] (mput h 172 g A, (hsx (h, r)).2) = some (.inl (some (.int (-1))), (mput h 172 (up g 9 k) A, (hsx (h, r)).2)) → STP xs t i 1624 l6 l7 l8 (h, r) := by
    intro k hk ew em
    have M2 := (fin_e C (Kp_rf h) M0 O0).1
    rw [M2] at em
    have rv1 := rvM h 172 g A (hsx (h, r)).2
    rw [M2] at rv1
    have et := m149 h (up g 9 k) A (hsx (h, r)).2 (p := 172)
    rw [up_eq] at et
    have rv2 := rvM h 172 (up g 9 k) A (hsx (h, r)).2
    have t1 := sc_rd C hl s1 (hsx (h, r)).2
    obtain ⟨x, y, z, ez⟩ := z25 (i := i) u1 t1 ew em et rv1 rv2 (fun q => by obtain hk | hk := hk <;> rw [hk] at q <;> exact absurd q (by decide)) l6 l7 l8
    exact ⟨x, y, z, _, ez, qe C M0 O0 G hn hc hs ht C (Kp_rf h) (fun k k9 _ => up_ne _ _ k9) (fun _ _ => rfl) (fun _ _ _ _ => rfl)⟩
  cases hf : L.2.2.2.2.find? (fndP a0) with
  | none => exact ex 1 (Or.inl rfl) (w266_1 (CPr_rv C r) a0 (q120n r K hf)) (u210n h g A _ (p := 172) (by decide) hM hf)
  | some q =>
    obtain ⟨k1, k2⟩ := q120 r hL (by omega) K hf
    by_cases c0 : q.2.1 = 2 ∧ L.1 7 < q.2.2 4
    · obtain ⟨F', wF, e⟩ := k1 c0
      obtain ⟨C1, kp⟩ := CPr_fore C wF
      obtain ⟨C2, M2, ⟨oo, ho⟩, fi⟩ := fin_v C1 kp M0 O0 (q.2.2 5 : Int32).toInt64
      have ew := w266 (CPr_rv C r) a0 e ho
      have em := u210 (pu (putL h 55 F') 184 (103, [.long (q.2.2 5 : Int32).toInt64])) g A r (p := 172) (by decide) hM hL hf c0
      rw [M2] at em
      have rv1 := rvM (pu (putL h 55 F') 184 (103, [.long (q.2.2 5 : Int32).toInt64])) 172 g A r
      rw [M2] at rv1
      have et := m149 (pu (putL h 55 F') 184 (103, [.long (q.2.2 5 : Int32).toInt64])) (up g 9 0) A r (p := 172)
      rw [up_eq] at et
      have rv2 := rvM (pu (putL h 55 F') 184 (103, [.long (q.2.2 5 : Int32).toInt64])) 172 (up g 9 0) A r
      have t1 := sc_rd C2 hl s1 r
      obtain ⟨x, y, z, ez⟩ := z25 (i := i) u1 t1 ew em et rv1 rv2 (fun _ => (fi _ _).2.2) l6 l7 l8
      exact ⟨x, y, z, _, ez, qv C M0 O0 G hn hc hs ht C1 kp _ (fun k k9 _ => up_ne _ _ k9) (fun _ _ => rfl) (fun _ _ _ _ => rfl)⟩
    · exact ex 2 (Or.inr rfl) (w266_2 (CPr_rv C r) a0 (k2 c0)) (u210f h g A _ (p := 172) (by decide) hM hL hf c0)
theorem bk_e1 {g2 g : Nat → Int32} {A2 A : Nat → Nat → Int32} (b : bkR g2 g A2 (ua A 3 (cpA 0 76 (A 1) (A 3)))) : (∀ k, k ≠ 9 → k ≠ 13 → g2 k = g k) ∧ (∀ x, x < 76 → A2 1 x = A 1 x) ∧ ∀ k, k ≠ 1 → k ≠ 3 → k ≠ 7 → A2 k = A k := by
  obtain ⟨b1, b2, b3⟩ := b
  refine ⟨b1, fun x hx => ?_, fun k k1 k3 k7 => ?_⟩
  · rw [b2 x hx, ua_eq]; exact cpA_lt _ _ hx
  · rw [b3 k k1 k7, ua_ne _ _ k3]
theorem st26 (R : GR xs t (h, r)) (ht : t ≤ 511) (hl : xs.length ≤ 2048) {a0 : Int32} (s1 : xs[i + 1]? = some a0) (l6 l7 l8 : Value) : STP xs t i 1680 l6 l7 l8 (h, r) := by
  obtain ⟨c, s, L, Sv, Hs, nx, ct, sv, er, fa, n, m, g, A, C, M0, O0, G, hn, hc, hs⟩ := R
  have hM := G.1
  have hL := G.2.1
  obtain ⟨n0, hn0, h70⟩ := Nn hL
  have K : QK h 33 55 L C.2.1.choose := AK_QK C.2.1.choose_spec hn0 h70
  have u1 := sc_rd C hl s1 r
  have wF0 : WS C.2.1.choose.2.2.2.2 := C.2.1.choose_spec.2.2.2.1.2
  have wL0 : WS L.2.2.2.2 := C.2.1.choose_spec.2.1.2
  have hM' := MRL_cp wF0 wL0 hM
  have hL' := FL_cp wF0 hL
  cases hf : L.2.2.2.2.find? (fndP a0) with
  | none =>
    have M2 := (fin_e C (Kp_rf h) M0 O0).1
    have ew := w267_1 (CPr_rv C r) a0 (q121n r K hf)
    have em := u213n h g A (hsx (h, r)).2 (p := 172) (by decide) hM hf
    rw [M2] at em
    have rv1 := rvM h 172 g A (hsx (h, r)).2
    rw [M2] at rv1
    have et := m149 h (up g 9 1) A (hsx (h, r)).2 (p := 172)
    rw [up_eq] at et
    have rv2 := rvM h 172 (up g 9 1) A (hsx (h, r)).2
    have t1 := sc_rd C hl s1 (hsx (h, r)).2
    obtain ⟨x, y, z, ez⟩ := z26 (i := i) u1 t1 ew em et rv1 rv2 (fun q => absurd q (by decide)) l6 l7 l8
    exact ⟨x, y, z, _, ez, qe C M0 O0 G hn hc hs ht C (Kp_rf h) (fun k k9 _ => up_ne _ _ k9) (fun _ _ => rfl) (fun _ _ _ _ => rfl)⟩
  | some q =>
    obtain ⟨k0, G0, -⟩ := id hL'
    have km := (minN_GI 300 (60 * ((t : Int) - n)) _ (by omega) G0).2.1
    obtain ⟨F', wF, e⟩ := q121 r K hf km
    obtain ⟨C1, kp⟩ := CPr_fore C wF
    have hs2 : ((cpL C.2.1.choose L).2.2.2.2.find? (fndP a0)).isSome = true := by
      have z := any_snd (S1 := zipT C.2.1.choose.2.2.2.2 L.2.2.2.2) (S2 := L.2.2.2.2) (zip_snd (by rw [wF0.1, wL0.1])) a0
      show ((zipT C.2.1.choose.2.2.2.2 L.2.2.2.2).find? (fndP a0)).isSome = true
      rw [z, hf]; rfl
    obtain ⟨q', hf'⟩ := Option.isSome_iff_exists.mp hs2
    have emu := fun h' r' => u213 h' g A r' (p := 172) (by decide) hM' hL' (by omega) hf'
    change ∀ h' r', ∃ g2 A2, rcal 213 [.ref 172, .int a0] (mput h' 172 g A, r') = some (.inl (some (.int (puA L.2.1 L.2.2.1 a0 300 (L.1, zipT C.2.1.choose.2.2.2.2 L.2.2.2.2)).1)), (mput h' 172 g2 A2, r')) ∧ g2 9 = (if (puA L.2.1 L.2.2.1 a0 300 (L.1, zipT C.2.1.choose.2.2.2.2 L.2.2.2.2)).1 = -1 then 1 else 0) ∧ bkR g2 g A2 (ua A 3 (cpA 0 76 (A 1) (A 3))) at emu
    generalize (puA L.2.1 L.2.2.1 a0 300 (L.1, zipT C.2.1.choose.2.2.2.2 L.2.2.2.2)).1 = pv at *
    by_cases c1 : pv = -1
    · rw [if_pos c1] at e
      obtain ⟨M2, O2, fi⟩ := fin_e C1 kp M0 O0
      obtain ⟨g2, A2, em, e9, bk⟩ := emu (putL h 55 F') (hsx (putL h 55 F', r)).2
      rw [if_pos c1] at e9
      obtain ⟨b1, b2, b3⟩ := bk_e1 bk
      have ew := w267_1 (CPr_rv C r) a0 e
      rw [M2] at em
      have rv1 := rvM (putL h 55 F') 172 g A (hsx (putL h 55 F', r)).2
      rw [M2] at rv1
      have et := m149 (putL h 55 F') g2 A2 (hsx (putL h 55 F', r)).2 (p := 172)
      rw [e9] at et
      have rv2 := rvM (putL h 55 F') 172 g2 A2 (hsx (putL h 55 F', r)).2
      have t1 := sc_rd C1 hl s1 (hsx (putL h 55 F', r)).2
      obtain ⟨x, y, z, ez⟩ := z26 (i := i) u1 t1 ew em et rv1 rv2 (fun q => absurd q (by decide)) l6 l7 l8
      exact ⟨x, y, z, _, ez, qe C M0 O0 G hn hc hs ht C1 kp b1 b2 b3⟩
    · rw [if_neg c1] at e
      obtain ⟨C2, M2, ⟨oo, ho⟩, fi⟩ := fin_v C1 kp M0 O0 pv.toInt64
      obtain ⟨g2, A2, em, e9, bk⟩ := emu (pu (putL h 55 F') 184 (103, [.long pv.toInt64])) r
      rw [if_neg c1] at e9
      obtain ⟨b1, b2, b3⟩ := bk_e1 bk
      have ew := w267 (CPr_rv C r) a0 e ho
      rw [M2] at em
      have rv1 := rvM (pu (putL h 55 F') 184 (103, [.long pv.toInt64])) 172 g A r
      rw [M2] at rv1
      have et := m149 (pu (putL h 55 F') 184 (103, [.long pv.toInt64])) g2 A2 r (p := 172)
      rw [e9] at et
      have rv2 := rvM (pu (putL h 55 F') 184 (103, [.long pv.toInt64])) 172 g2 A2 r
      have t1 := sc_rd C2 hl s1 r
      obtain ⟨x, y, z, ez⟩ := z26 (i := i) u1 t1 ew em et rv1 rv2 (fun _ => (fi _ _).2.2) l6 l7 l8
      exact ⟨x, y, z, _, ez, qv C M0 O0 G hn hc hs ht C1 kp _ b1 b2 b3⟩
theorem st27 (R : GR xs t (h, r)) (ht : t ≤ 511) (l6 l7 l8 : Value) : STP xs t i 1736 l6 l7 l8 (h, r) := by
  obtain ⟨c, s, L, Sv, Hs, nx, ct, sv, er, fa, n, m, g, A, C, M0, O0, G, hn, hc, hs⟩ := R
  have hM := G.1
  have hL := G.2.1
  obtain ⟨n0, hn0, h70⟩ := Nn hL
  have K : QK h 33 55 L C.2.1.choose := AK_QK C.2.1.choose_spec hn0 h70
  have wF0 : WS C.2.1.choose.2.2.2.2 := C.2.1.choose_spec.2.2.2.1.2
  have wL0 : WS L.2.2.2.2 := C.2.1.choose_spec.2.1.2
  have hM' := MRL_cp wF0 wL0 hM
  have hL' := FL_cp wF0 hL
  obtain ⟨k0, G0, -⟩ := id hL'
  have km := (minN_GI 300 (60 * ((t : Int) - n)) _ (by omega) G0).2.1
  obtain ⟨F', wF, e⟩ := q122 r K km
  obtain ⟨C1, kp⟩ := CPr_fore C wF
  obtain ⟨M2, O2, fi⟩ := fin_e C1 kp M0 O0
  obtain ⟨g2, A2, em, e9, bk⟩ := u214 (putL h 55 F') g A r (p := 172) (by decide) hM' hL' (by omega)
  obtain ⟨b1, b2, b3⟩ := bk_e1 bk
  rw [M2] at em
  have rv1 := rvM (putL h 55 F') 172 g A r
  rw [M2] at rv1
  obtain ⟨x, y, z, ez⟩ := z27 (i := i) (CPr_rv C r) e rv1 em l6 l7 l8
  exact ⟨x, y, z, _, ez, qn C M0 O0 G hn hc hs ht C1 kp b1 b2 b3⟩
theorem st36 (R : GR xs t (h, r)) (ht : t ≤ 511) (l6 l7 l8 : Value) : STP xs t i 2064 l6 l7 l8 (h, r) := by
  obtain ⟨c, s, L, Sv, Hs, nx, ct, sv, er, fa, n, m, g, A, C, M0, O0, G, hn, hc, hs⟩ := R
  have hM := G.1
  have hL := G.2.1
  obtain ⟨n0, hn0, h70⟩ := Nn hL
  have K : QK h 33 55 L C.2.1.choose := AK_QK C.2.1.choose_spec hn0 h70
  obtain ⟨F', wF, e⟩ := q133 r hL (by omega) K
  obtain ⟨C1, kp⟩ := CPr_fore C wF
  obtain ⟨M2, O2, fi⟩ := fin_e C1 kp M0 O0
  have em := u223 (putL h 55 F') g A r (p := 172) (by decide)
  rw [M2] at em
  have rv1 := rvM (putL h 55 F') 172 g A r
  rw [M2] at rv1
  obtain ⟨x, y, z, ez⟩ := z36 (i := i) (CPr_rv C r) e rv1 em l6 l7 l8
  exact ⟨x, y, z, _, ez, qn C M0 O0 G hn hc hs ht C1 kp (fun k k9 _ => up_ne _ _ k9) (fun _ _ => rfl) (fun _ _ _ _ => rfl)⟩
theorem st44 (R : GR xs t (h, r)) (ht : t ≤ 511) (l6 l7 l8 : Value) : STP xs t i 2392 l6 l7 l8 (h, r) := by
  obtain ⟨c, s, L, Sv, Hs, nx, ct, sv, er, fa, n, m, g, A, C, M0, O0, G, hn, hc, hs⟩ := R
  obtain ⟨hM, hL, gn, gm, gk, e6, gs, gh⟩ := id G
  obtain ⟨Fc, ak⟩ := id C.2.1
  have n9 : nx < 9 := ak.2.2.2.2.2.2.2.2.1
  have c8 : ct ≤ 8 := ak.2.2.2.2.2.2.2.2.2
  by_cases c0 : ct = 0
  · have M2 := (fin_e C (Kp_rf h) M0 O0).1
    have ew := w279_1 (CPr_rv C r) (m145n r ak c0)
    have em := m241n h g (hsx (h, r)).2 (p := 172) (by decide) A (by rw [e6, c0]; rfl)
    rw [M2] at em
    have rv1 := rvM h 172 g A (hsx (h, r)).2
    rw [M2] at rv1
    have et := m149 h (up g 9 1) A (hsx (h, r)).2 (p := 172)
    rw [up_eq] at et
    have rv2 := rvM h 172 (up g 9 1) A (hsx (h, r)).2
    obtain ⟨x, y, z, ez⟩ := z44 (i := i) ew em et rv1 rv2 (fun q => absurd q (by decide)) l6 l7 l8
    exact ⟨x, y, z, _, ez, qe C M0 O0 G hn hc hs ht C (Kp_rf h) (fun k k9 _ => up_ne _ _ k9) (fun _ _ => rfl) (fun _ _ _ _ => rfl)⟩
  · obtain ⟨e, a1⟩ := m145 r ak (by omega)
    have hq := ak.2.2.2.2.2.2.1 ((nx + 8) % 9) (Nat.mod_lt _ (by decide))
    have wc := WS_cp (D := L) (L := Hs ((nx + 8) % 9)) ak.2.1.2 hq.2
    have kb : ∀ b, b = 0 ∨ 167 ≤ b → putL (pu h 66 (hO ((nx + 8) % 9) (ct - 1))) 33 (cpL L (Hs ((nx + 8) % 9))) b = h b := fun b hb => by
      rw [putL_out _ wc (by omega)]
      have : b ≠ 66 := by omega
      simp [pu, this]
    obtain ⟨C1, kp⟩ := CPr_of C a1 kb
    generalize putL (pu h 66 (hO ((nx + 8) % 9) (ct - 1))) 33 (cpL L (Hs ((nx + 8) % 9))) = h1 at *
    obtain ⟨C2, M2, ⟨oo, ho⟩, fi⟩ := fin_v C1 kp M0 O0 (I (ct - 1)).toInt64
    have ew := w279 (CPr_rv C r) e ho
    have em := m241 (pu h1 184 (103, [.long (I (ct - 1)).toInt64])) g r (p := 172) (by decide) A (q := ct - 1) (by omega) (by rw [e6, show ct - 1 + 1 = ct by omega])
    rw [M2] at em
    have rv1 := rvM (pu h1 184 (103, [.long (I (ct - 1)).toInt64])) 172 g A r
    rw [M2] at rv1
    have et := m149 (pu h1 184 (103, [.long (I (ct - 1)).toInt64])) (up (up g 9 0) 6 (I (ct - 1))) (ua A 1 (cpA 0 76 (fun x => A 5 (76 * (ct - 1) + x)) (A 1))) r (p := 172)
    rw [up_ne _ _ (show 9 ≠ 6 by decide), up_eq] at et
    have rv2 := rvM (pu h1 184 (103, [.long (I (ct - 1)).toInt64])) 172 (up (up g 9 0) 6 (I (ct - 1))) (ua A 1 (cpA 0 76 (fun x => A 5 (76 * (ct - 1) + x)) (A 1))) r
    obtain ⟨x, y, z, ez⟩ := z44 (i := i) ew em et rv1 rv2 (fun _ => (fi _ _).2.2) l6 l7 l8
    obtain ⟨C3, O3, -⟩ := fi (up (up g 9 0) 6 (I (ct - 1))) (ua A 1 (cpA 0 76 (fun x => A 5 (76 * (ct - 1) + x)) (A 1)))
    obtain ⟨b1, b2, b3, b4, b5, b6, b7, b8⟩ := GRm_up G (X' := 60 * (((t + 1 : Nat) : Int) - n)) (N' := ((t + 1 : Nat) : Int) - n) (by push_cast; omega) (by push_cast; omega) (by push_cast; omega)
    obtain ⟨w1, w2⟩ := b8 (ct - 1) (by omega)
    rw [show (nx + 9 - ct + (ct - 1)) % 9 = (nx + 8) % 9 by omega] at w1 w2
    refine ⟨x, y, z, _, ez, c, s, cpL L (Hs ((nx + 8) % 9)), Sv, Hs, (nx + 8) % 9, ct - 1, sv, er, fa, n, m, _, _, ?_, MP_self _ _ _, O3, ⟨?_, FL_cp ak.2.1.2 w2, ⟨?_, b3.2⟩, ⟨?_, b4.2.1, ?_⟩, ⟨?_, ?_⟩, up_eq _ _ _, ⟨?_, b7.2.1, ?_⟩, fun q hq => ?_⟩, by omega, by omega, by omega⟩
    · rw [ua_ne _ _ (show 6 ≠ 1 by decide), ua_ne _ _ (show 11 ≠ 1 by decide)]; exact C3
    · rw [ua_eq]
      exact MRL_ext (MRL_cp ak.2.1.2 hq.2 w1) (fun y hy => cpA_lt _ _ hy)
    · rw [up_ne _ _ (by decide), up_ne _ _ (by decide)]; exact b3.1
    · rw [up_ne _ _ (by decide), up_ne _ _ (by decide)]; exact b4.1
    · rw [ua_ne _ _ (show 11 ≠ 1 by decide)]; exact b4.2.2
    · rw [up_ne _ _ (by decide), up_ne _ _ (by decide)]; exact b5.1
    · rw [up_ne _ _ (by decide), up_ne _ _ (by decide)]; exact b5.2
    · rw [up_ne _ _ (by decide), up_ne _ _ (by decide)]; exact b7.1
    · rw [ua_ne _ _ (show 4 ≠ 1 by decide)]; exact b7.2.2
    · rw [ua_ne _ _ (show 5 ≠ 1 by decide), show ((nx + 8) % 9 + 9 - (ct - 1) + q) % 9 = (nx + 9 - ct + q) % 9 by omega]
      exact b8 q (by omega)
theorem st45 (R : GR xs t (h, r)) (ht : t ≤ 511) (l6 l7 l8 : Value) : STP xs t i 2436 l6 l7 l8 (h, r) := by
  obtain ⟨c, s, L, Sv, Hs, nx, ct, sv, er, fa, n, m, g, A, C, M0, O0, G, hn, hc, hs⟩ := R
  obtain ⟨Fc, ak⟩ := id C.2.1
  obtain ⟨h1, e, a1, fr⟩ := m146 r ak
  obtain ⟨C1, kp⟩ := CPr_of C a1 (fun b hb => fr b (by omega))
  obtain ⟨M2, O2, fi⟩ := fin_e C1 kp M0 O0
  have em := m242 h1 g r (p := 172) (by decide) A
  rw [M2] at em
  have rv1 := rvM h1 172 g A r
  rw [M2] at rv1
  obtain ⟨x, y, z, ez⟩ := z45 (i := i) (CPr_rv C r) e rv1 em l6 l7 l8
  obtain ⟨C3, O3⟩ := fi (up (up g 9 0) 4 1) (ua A 4 (cpA 0 76 (A 1) (A 4)))
  obtain ⟨b1, b2, b3, b4, b5, b6, b7, b8⟩ := GRm_up G (X' := 60 * (((t + 1 : Nat) : Int) - n)) (N' := ((t + 1 : Nat) : Int) - n) (by push_cast; omega) (by push_cast; omega) (by push_cast; omega)
  refine ⟨x, y, z, _, ez, c, s, L, cpL Sv L, Hs, nx, ct, 1, er, fa, n, m, _, _, ?_, MP_self _ _ _, O3, ⟨?_, b2, ⟨?_, b3.2⟩, ⟨?_, b4.2.1, ?_⟩, ⟨?_, ?_⟩, ?_, ⟨up_eq _ _ _, Or.inr rfl, fun _ => ⟨?_, FL_cp ak.2.2.1.2 b2⟩⟩, ?_⟩, by omega, by omega, by omega⟩
  · rw [ua_ne _ _ (show 6 ≠ 4 by decide), ua_ne _ _ (show 11 ≠ 4 by decide)]; exact C3
  · rw [ua_ne _ _ (show 1 ≠ 4 by decide)]; exact b1
  · rw [up_ne _ _ (by decide), up_ne _ _ (by decide)]; exact b3.1
  · rw [up_ne _ _ (by decide), up_ne _ _ (by decide)]; exact b4.1
  · rw [ua_ne _ _ (show 11 ≠ 4 by decide)]; exact b4.2.2
  · rw [up_ne _ _ (by decide), up_ne _ _ (by decide)]; exact b5.1
  · rw [up_ne _ _ (by decide), up_ne _ _ (by decide)]; exact b5.2
  · rw [up_ne _ _ (by decide), up_ne _ _ (by decide)]; exact b6
  · rw [ua_eq]
    exact MRL_ext (MRL_cp ak.2.2.1.2 ak.2.1.2 b1) (fun y hy => cpA_lt _ _ hy)
  · rw [ua_ne _ _ (show 5 ≠ 4 by decide)]; exact b8
theorem st46 (R : GR xs t (h, r)) (ht : t ≤ 511) (l6 l7 l8 : Value) : STP xs t i 2447 l6 l7 l8 (h, r) := by
  obtain ⟨c, s, L, Sv, Hs, nx, ct, sv, er, fa, n, m, g, A, C, M0, O0, G, hn, hc, hs⟩ := R
  obtain ⟨Fc, ak⟩ := id C.2.1
  obtain ⟨hM, hL, gn, gm, gk, e6, ⟨g4, sv01, gsv⟩, gh⟩ := id G
  obtain s0 | s0 := sv01
  · subst s0
    have M2 := (fin_e C (Kp_rf h) M0 O0).1
    have ew := w280_1 (CPr_rv C r) (m147n r ak)
    have em := m243n h g (hsx (h, r)).2 (p := 172) (by decide) A g4
    rw [M2] at em
    have rv1 := rvM h 172 g A (hsx (h, r)).2
    rw [M2] at rv1
    have et := m149 h (up g 9 1) A (hsx (h, r)).2 (p := 172)
    rw [up_eq] at et
    have rv2 := rvM h 172 (up g 9 1) A (hsx (h, r)).2
    obtain ⟨x, y, z, ez⟩ := z46 (i := i) ew em et rv1 rv2 l6 l7 l8
    exact ⟨x, y, z, _, ez, qe C M0 O0 G hn hc hs ht C (Kp_rf h) (fun k k9 _ => up_ne _ _ k9) (fun _ _ => rfl) (fun _ _ _ _ => rfl)⟩
  · subst s0
    obtain ⟨h1, e, a1, fr⟩ := m147 r ak
    obtain ⟨C1, kp⟩ := CPr_of C a1 (fun b hb => fr b (by omega))
    obtain ⟨M2, O2, fi⟩ := fin_e C1 kp M0 O0
    have ew := w280 (CPr_rv C r) e
    have em := m243 h1 g r (p := 172) (by decide) A (by rw [g4]; decide)
    rw [M2] at em
    have rv1 := rvM h1 172 g A r
    rw [M2] at rv1
    have et := m149 h1 (up (up g 9 0) 6 0) (ua A 1 (cpA 0 76 (A 4) (A 1))) r (p := 172)
    rw [up_ne _ _ (show 9 ≠ 6 by decide), up_eq] at et
    have rv2 := rvM h1 172 (up (up g 9 0) 6 0) (ua A 1 (cpA 0 76 (A 4) (A 1))) r
    obtain ⟨x, y, z, ez⟩ := z46 (i := i) ew em et rv1 rv2 l6 l7 l8
    obtain ⟨C3, O3⟩ := fi (up (up g 9 0) 6 0) (ua A 1 (cpA 0 76 (A 4) (A 1)))
    obtain ⟨b1, b2, b3, b4, b5, b6, b7, b8⟩ := GRm_up G (X' := 60 * (((t + 1 : Nat) : Int) - n)) (N' := ((t + 1 : Nat) : Int) - n) (by push_cast; omega) (by push_cast; omega) (by push_cast; omega)
    obtain ⟨v1, v2⟩ := b7.2.2 rfl
    refine ⟨x, y, z, _, ez, c, s, cpL L Sv, Sv, Hs, nx, 0, 1, er, fa, n, m, _, _, ?_, MP_self _ _ _, O3, ⟨?_, FL_cp ak.2.1.2 v2, ⟨?_, b3.2⟩, ⟨?_, b4.2.1, ?_⟩, ⟨?_, ?_⟩, up_eq _ _ _, ⟨?_, Or.inr rfl, ?_⟩, fun q hq => absurd hq (Nat.not_lt_zero q)⟩, by omega, by omega, by omega⟩
    · rw [ua_ne _ _ (show 6 ≠ 1 by decide), ua_ne _ _ (show 11 ≠ 1 by decide)]; exact C3
    · rw [ua_eq]
      exact MRL_ext (MRL_cp ak.2.1.2 ak.2.2.1.2 v1) (fun y hy => cpA_lt _ _ hy)
    · rw [up_ne _ _ (by decide), up_ne _ _ (by decide)]; exact b3.1
    · rw [up_ne _ _ (by decide), up_ne _ _ (by decide)]; exact b4.1
    · rw [ua_ne _ _ (show 11 ≠ 1 by decide)]; exact b4.2.2
    · rw [up_ne _ _ (by decide), up_ne _ _ (by decide)]; exact b5.1
    · rw [up_ne _ _ (by decide), up_ne _ _ (by decide)]; exact b5.2
    · rw [up_ne _ _ (by decide), up_ne _ _ (by decide)]; exact b7.1
    · rw [ua_ne _ _ (show 4 ≠ 1 by decide)]; exact b7.2.2
end STEP2
