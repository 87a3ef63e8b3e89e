/-! the law's loop -/
section LOOP
variable {xs : List Int32}
theorem stp_k (nd : ndK) (nf : nfK) {t i : Nat} {h : PH} {r : Nat × Nat × Nat} (R : GR xs t (h, r)) (ht : t ≤ 511) (hl : xs.length ≤ 2048) {a0 a1 a2 : Int32} (s1 : xs[i + 1]? = some a0) (s2 : xs[i + 2]? = some a1) (s3 : xs[i + 3]? = some a2) (l6 l7 l8 : Value) : ∀ k, k ≤ 46 → ∃ x y z H2, rn 281 44 [.ref 0, .ref 32, .ref 172, .ref 184, .ref 185, .int (I i), l6, l7, l8] [.int (I k)] (h, r) = rn 281 2471 [.ref 0, .ref 32, .ref 172, .ref 184, .ref 185, .int (I i), x, y, z] [] H2 ∧ GR xs (t + 1) H2
  | 0, _ => by rw [show I 0 = 0 from rfl, x281_44_0]; exact st0 R ht hl s1 s2 l6 l7 l8
  | 1, _ => by rw [show I 1 = 1 from rfl, x281_44_1]; exact st1 R ht hl s1 s2 l6 l7 l8
  | 2, _ => by rw [show I 2 = 2 from rfl, x281_44_2]; exact st2 R ht hl s1 s2 s3 l6 l7 l8
  | 3, _ => by rw [show I 3 = 3 from rfl, x281_44_3]; exact st3 R ht hl s1 l6 l7 l8
  | 4, _ => by rw [show I 4 = 4 from rfl, x281_44_4]; exact st4 R ht hl s1 l6 l7 l8
  | 5, _ => by rw [show I 5 = 5 from rfl, x281_44_5]; exact st5 R ht hl s1 l6 l7 l8
  | 6, _ => by rw [show I 6 = 6 from rfl, x281_44_6]; exact st6 R ht hl s1 l6 l7 l8
  | 7, _ => by rw [show I 7 = 7 from rfl, x281_44_7]; exact st7 R ht hl l6 l7 l8
  | 8, _ => by rw [show I 8 = 8 from rfl, x281_44_8]; exact st8 R ht hl s1 l6 l7 l8
  | 9, _ => by rw [show I 9 = 9 from rfl, x281_44_9]; exact st9 R ht hl s1 l6 l7 l8
  | 10, _ => by rw [show I 10 = 10 from rfl, x281_44_10]; exact st10 R ht hl s1 l6 l7 l8
  | 11, _ => by rw [show I 11 = 11 from rfl, x281_44_11]; exact st11 R ht hl s1 l6 l7 l8
  | 12, _ => by rw [show I 12 = 12 from rfl, x281_44_12]; exact st12 R ht hl s1 l6 l7 l8
  | 13, _ => by rw [show I 13 = 13 from rfl, x281_44_13]; exact st13 R ht hl s1 l6 l7 l8
  | 14, _ => by rw [show I 14 = 14 from rfl, x281_44_14]; exact st14 R ht hl s1 s2 l6 l7 l8
  | 15, _ => by rw [show I 15 = 15 from rfl, x281_44_15]; exact st15 R ht hl s1 s2 l6 l7 l8
  | 16, _ => by rw [show I 16 = 16 from rfl, x281_44_16]; exact st16 R ht hl l6 l7 l8
  | 17, _ => by rw [show I 17 = 17 from rfl, x281_44_17]; exact st17 R ht hl s1 l6 l7 l8
  | 18, _ => by rw [show I 18 = 18 from rfl, x281_44_18]; exact st18 R ht hl s1 l6 l7 l8
  | 19, _ => by rw [show I 19 = 19 from rfl, x281_44_19]; exact st19 R ht hl s1 l6 l7 l8
  | 20, _ => by rw [show I 20 = 20 from rfl, x281_44_20]; exact st20 R ht hl s1 l6 l7 l8
  | 21, _ => by rw [show I 21 = 21 from rfl, x281_44_21]; exact st21 R ht hl s1 l6 l7 l8
  | 22, _ => by rw [show I 22 = 22 from rfl, x281_44_22]; exact st22 R ht hl s1 l6 l7 l8
  | 23, _ => by rw [show I 23 = 23 from rfl, x281_44_23]; exact st23 R ht hl s1 l6 l7 l8
  | 24, _ => by rw [show I 24 = 24 from rfl, x281_44_24]; exact st24 R ht hl s1 l6 l7 l8
  | 25, _ => by rw [show I 25 = 25 from rfl, x281_44_25]; exact st25 R ht hl s1 l6 l7 l8
  | 26, _ => by rw [show I 26 = 26 from rfl, x281_44_26]; exact st26 R ht hl s1 l6 l7 l8
  | 27, _ => by rw [show I 27 = 27 from rfl, x281_44_27]; exact st27 R ht l6 l7 l8
  | 28, _ => by rw [show I 28 = 28 from rfl, x281_44_28]; exact st28 R ht hl s1 l6 l7 l8
  | 29, _ => by rw [show I 29 = 29 from rfl, x281_44_29]; exact st29 R ht hl l6 l7 l8
  | 30, _ => by rw [show I 30 = 30 from rfl, x281_44_30]; exact st30 R ht hl l6 l7 l8
  | 31, _ => by rw [show I 31 = 31 from rfl, x281_44_31]; exact st31 R ht hl l6 l7 l8
  | 32, _ => by rw [show I 32 = 32 from rfl, x281_44_32]; exact st32 R ht hl l6 l7 l8
  | 33, _ => by rw [show I 33 = 33 from rfl, x281_44_33]; exact st33 R ht hl l6 l7 l8
  | 34, _ => by rw [show I 34 = 34 from rfl, x281_44_34]; exact st34 nd R ht l6 l7 l8
  | 35, _ => by rw [show I 35 = 35 from rfl, x281_44_35]; exact st35 nf R ht l6 l7 l8
  | 36, _ => by rw [show I 36 = 36 from rfl, x281_44_36]; exact st36 R ht l6 l7 l8
  | 37, _ => by rw [show I 37 = 37 from rfl, x281_44_37]; exact st37 R ht hl s1 l6 l7 l8
  | 38, _ => by rw [show I 38 = 38 from rfl, x281_44_38]; exact st38 R ht l6 l7 l8
  | 39, _ => by rw [show I 39 = 39 from rfl, x281_44_39]; exact st39 R ht hl l6 l7 l8
  | 40, _ => by rw [show I 40 = 40 from rfl, x281_44_40]; exact st40 R ht hl l6 l7 l8
  | 41, _ => by rw [show I 41 = 41 from rfl, x281_44_41]; exact st41 R ht l6 l7 l8
  | 42, _ => by rw [show I 42 = 42 from rfl, x281_44_42]; exact st42 R ht hl s1 l6 l7 l8
  | 43, _ => by rw [show I 43 = 43 from rfl, x281_44_43]; exact st43 R ht hl s1 l6 l7 l8
  | 44, _ => by rw [show I 44 = 44 from rfl, x281_44_44]; exact st44 R ht l6 l7 l8
  | 45, _ => by rw [show I 45 = 45 from rfl, x281_44_45]; exact st45 R ht l6 l7 l8
  | 46, _ => by rw [show I 46 = 46 from rfl, x281_44_46]; exact st46 R ht l6 l7 l8
  | k + 47, hk => absurd hk (by omega)
theorem Z_4 : Z 4 = 4 := by decide
theorem GR_up {t : Nat} {H : HS} (R : GR xs t H) (ht : t ≤ 511) : GR xs (t + 1) H := by
  obtain ⟨c, s, L, Sv, Hs, nx, ct, sv, er, fa, n, m, g, A, C, M0, O0, G, hn, hc, hs⟩ := R
  exact ⟨c, s, L, Sv, Hs, nx, ct, sv, er, fa, n, m, g, A, C, M0, O0, GRm_up G (by push_cast; omega) (by push_cast; omega) (by push_cast; omega), by omega, by omega, by omega⟩
theorem law_loop (nd : ndK) (nf : nfK) (hl : xs.length ≤ 2048) : ∀ (f t : Nat) (H : HS) (l6 l7 l8 : Value), GR xs t H → xs.length / 4 = t + f → ∃ t' H', rn 281 28 [.ref 0, .ref 32, .ref 172, .ref 184, .ref 185, .int (I (4 * t)), l6, l7, l8] [] H = some (.inl (some (.int 1)), H') ∧ GR xs t' H' ∧ t' ≤ 512 := by
  intro f
  induction f with
  | zero =>
    intro t H l6 l7 l8 R e
    obtain ⟨h, r⟩ := H
    have len : alen (h, r) 0 = some (.int (I xs.length)) := by
      obtain ⟨c, s, L, Sv, Hs, nx, ct, sv, er, fa, n, m, g, A, C, -⟩ := R
      exact sc_len C r
    have hc : I xs.length - 4 < I (4 * t) := by
      rw [Z_lt, Z_sub (by rw [Z_I (by omega), Z_4]; omega) (by rw [Z_I (by omega), Z_4]; omega), Z_I (by omega), Z_I (by omega), Z_4]
      omega
    refine ⟨t, (h, r), ?_, R, by omega⟩
    simp only [x281_28, x281_30, x281_31, x281_32, x281_33, x281_34, x281_2477, x281_2478, gk_some, pk_some, qk_some, bnd_v, bnd_n, kl_int, kl_ref, kl_null, kl_un, Nat.reduceAdd, if_true, if_false, len, hc, fit1]
  | succ f ih =>
    intro t H l6 l7 l8 R e
    obtain ⟨h, r⟩ := H
    have h4 : 4 * t + 3 < xs.length := by omega
    have C0 : ∃ c s L Sv Hs nx ct sv er fa n m g A, CPr xs h r c s L Sv Hs nx ct sv er fa (A 6) n m (A 11) ∧ mput h 172 g A = h := by
      obtain ⟨c, s, L, Sv, Hs, nx, ct, sv, er, fa, n, m, g, A, C, M, -⟩ := R
      exact ⟨c, s, L, Sv, Hs, nx, ct, sv, er, fa, n, m, g, A, C, M⟩
    obtain ⟨c, s, L, Sv, Hs, nx, ct, sv, er, fa, n, m, g, A, C, -⟩ := C0
    have len := sc_len C r
    have hc : ¬ I xs.length - 4 < I (4 * t) := by
      rw [Z_lt, Z_sub (by rw [Z_I (by omega), Z_4]; omega) (by rw [Z_I (by omega), Z_4]; omega), Z_I (by omega), Z_I (by omega), Z_4]
      omega
    have s0 : xs[4 * t]? = some xs[4 * t] := List.getElem?_eq_getElem (by omega)
    have s1 : xs[4 * t + 1]? = some xs[4 * t + 1] := List.getElem?_eq_getElem (by omega)
    have s2 : xs[4 * t + 2]? = some xs[4 * t + 2] := List.getElem?_eq_getElem (by omega)
    have s3 : xs[4 * t + 3]? = some xs[4 * t + 3] := List.getElem?_eq_getElem (by omega)
    have u0 := sc_rd C hl s0 r
    have st : ∃ x y z H2, rn 281 44 [.ref 0, .ref 32, .ref 172, .ref 184, .ref 185, .int (I (4 * t)), l6, l7, l8] [.int (xs[4 * t] &&& 63)] (h, r) = rn 281 2471 [.ref 0, .ref 32, .ref 172, .ref 184, .ref 185, .int (I (4 * t)), x, y, z] [] H2 ∧ GR xs (t + 1) H2 := by
      by_cases c : 0 ≤ Z (xs[4 * t] &&& 63) ∧ Z (xs[4 * t] &&& 63) ≤ 46
      · have z1 := Z_of c.1
        have z2 := Z_nat c.1
        rw [z1]
        exact stp_k nd nf R (by omega) hl s1 s2 s3 l6 l7 l8 _ (by omega)
      · exact ⟨l6, l7, l8, (h, r), x281_44_d _ _ _ _ _ _ _ _ _ _ _ (by unfold Z at c; omega), GR_up R (by omega)⟩
    obtain ⟨x, y, z, H2, e1, R2⟩ := st
    obtain ⟨t', H', e2, R', ht'⟩ := ih (t + 1) H2 x y z R2 (by omega)
    refine ⟨t', H', ?_, R', ht'⟩
    have ei : I (4 * t) + 4 = I (4 * (t + 1)) := I_add (4 * t) 4
    simp only [x281_28, x281_30, x281_31, x281_32, x281_33, x281_34, x281_37, x281_38, x281_40, x281_41, x281_43, gk_some, pk_some, qk_some, bnd_v, bnd_n, kl_int, kl_ref, kl_null, kl_un, Nat.reduceAdd, if_true, if_false, len, hc, u0]
    rw [e1]
    simp only [x281_2471, x281_2474, gk_some, pk_some, qk_some, bnd_v, bnd_n, kl_int, kl_ref, kl_null, kl_un, Nat.reduceAdd, if_true, if_false, ei]
    exact e2
theorem GR_end {t : Nat} {H : HS} (R : GR xs t H) (ht : t ≤ 512) : H.2.2.1 ≤ 603072 ∧ H.2.2.2 ≤ 7194730 := by
  obtain ⟨c, s, L, Sv, Hs, nx, ct, sv, er, fa, n, m, g, A, ⟨-, -, -, i0, B, x, sb, i3, mc, er', eq⟩, -, -, -, -, hc, hs⟩ := R
  rw [er']
  have : slN i0 ≤ 300 := by
    rcases (by omega : i0 = 0 ∨ i0 = 1 ∨ i0 = 2 ∨ i0 = 3) with rfl | rfl | rfl | rfl <;> decide
  unfold rS
  constructor
  · show c + i0 ≤ 603072; omega
  · show s + slN i0 ≤ 7194730; omega
end LOOP
