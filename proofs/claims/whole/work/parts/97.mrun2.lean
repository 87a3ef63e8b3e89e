/-! the reference carries out its program -/
theorem MRL_ext {a a' : Nat → Int32} {L : LN} (hM : MRL a L) (e : ∀ i, i < 76 → a' i = a i) : MRL a' L := by
  obtain ⟨hS, hT, hZ⟩ := hM
  have h6 := hT.2.1
  refine ⟨S_hi hS (fun i hi _ => e i (by omega)), ⟨by rw [e 1 (by decide)]; exact hT.1, h6, fun D s R hP c hc => ?_⟩, fun i h1 h2 => by rw [e i h2]; exact hZ i h1 h2⟩
  have hl : D.length < 6 := by rw [hP] at h6; simp only [List.length_append, List.length_cons] at h6; omega
  rw [e _ (by omega)]
  exact hT.2.2 D s R hP c hc
theorem cpA_lt {m : Nat} (src dst : Nat → Int32) {x : Nat} (h : x < m) : cpA 0 m src dst x = src x := by
  unfold cpA; rw [if_pos ⟨Nat.zero_le _, h⟩]
theorem thr_pos (k : Nat) (v : Int32) : 0 < thr k v := by
  unfold thr
  split
  · split <;> decide
  · split
    · decide
    · split <;> decide
  · split
    · decide
    · split <;> decide
  · decide
  · split <;> decide
theorem I_ex (x : Int32) : ∃ m, x = I m := ⟨x.toBitVec.toNat, by
  unfold I
  exact Int32.toBitVec_inj.mp (by simp)⟩
theorem rnL_neg {T : Nat → Int32} {n : Nat} {f : Nat} {s : PS} {j : Nat} {v : Int32} {L : LN} (hv : v < 0) : rnL T n f s j v L = (v, f, s, j, L) := by
  cases f with
  | zero => rfl
  | succ f => rw [rnL, if_pos hv]
section MRUN3
variable (h : PH) {p : Nat} (r : Nat × Nat × Nat)
theorem l233b (hp : 32 ≤ p) (g : Nat → Int32) (x1 : Value) (v : Int32) : ∀ (d i : Nat) (A : Nat → Nat → Int32), i + d = 76 → rn 233 139 [.ref p, x1, .int v, .int (I i)] [] (mput h p g A, r) = rn 233 163 [.ref p, x1, .int v, .int 76] [] (mput h p g (ua A 1 (cpA i 76 (A 2) (A 1))), r) := by
  intro d
  induction d with
  | zero =>
    intro i A hi
    have e : i = 76 := by omega
    subst e
    have a : ¬ I 76 < 76 := by decide
    rw [x233_139, x233_140, x233_142, if_neg a, cpA_0, ua_self]
    rfl
  | succ d ih =>
    intro i A hi
    have a : I i < 76 := (I_lt (b := 76) (by omega) (by decide)).mpr (by omega)
    have b := rn2 h g A r (p := p) (n := i) (by omega)
    have w := wn1 h g A r hp (n := i) (by omega) (A 2 i)
    have i2 := ih (i + 1) (ua A 1 (up (A 1) i (A 2 i))) (by omega)
    rw [ua_ne A _ (show 2 ≠ 1 by decide), ua_eq, ua_ua, cpA_s (by omega)] at i2
    rw [x233_139, x233_140, x233_142, if_pos a]
    simp only [x233_145, x233_146, x233_149, x233_150, x233_151, x233_154, x233_155, x233_156, x233_157, x233_160, gk_some, pk_some, qk_some, bnd_v, bnd_n, kl_int, kl_ref, kl_null, kl_un, Nat.reduceAdd, if_true, if_false, gm0, gm1, gm2, gm3, gm4, gm5, gm6, gm7, gm8, gm9, gm10, gm11, gm12, gm13, gm14, gm15, gm16, gm17, gm18, gm19, gm20, gm21, gm22, rvM, b, w, I_1, i2]
theorem d233 (hp : 32 ≤ p) (G : Nat → Int32) (B : Nat → Nat → Int32) {n K : Nat} (h6 : n ≤ 60) (hK : K ≤ 60) (e17 : G 17 = I K) (e9 : G 9 = 0) : ∀ (f i q j : Nat) (s : PS) (v : Int32) (L : LN) (X N : Int) (a c : Nat → Int32) (m : Nat), f + i = K → (f = 0 ∨ (stq (B 6) n (B 10) f i q ∧ (nxt (B 6) n s).1 = q)) → ¬ v < 0 → j < 7 → FL X N L → 0 ≤ X → X + 60 * f ≤ 31000 → N + f ≤ 512 → MRL a L →
    ((rnL (B 6) n f s j v L).1 < 0 ∧ ∃ g2 A2, rn 233 115 [.ref p, .int 0, .int (I i), un] [] (mm h p G B a c m, r) = some (.inl (some (.int (-1))), (mput h p g2 A2, r)) ∧ (∀ x, x < 76 → A2 1 x = B 2 x) ∧ (∀ k, k ≠ 1 → k ≠ 7 → A2 k = B k) ∧ g2 8 = I (K - (rnL (B 6) n f s j v L).2.1) - 1 ∧ g2 9 = 2 ∧ ∀ k, k ≠ 8 → k ≠ 9 → k ≠ 13 → g2 k = G k) ∨
    (¬ (rnL (B 6) n f s j v L).1 < 0 ∧ (rnL (B 6) n f s j v L).2.1 = 0 ∧ ∃ a' c' m', rn 233 115 [.ref p, .int 0, .int (I i), un] [] (mm h p G B a c m, r) = rn 233 180 [.ref p, .int 0, .int (I K), un] [] (mm h p G B a' c' m', r) ∧ MRL a' (rnL (B 6) n f s j v L).2.2.2.2) := by
  intro f
  induction f with
  | zero =>
    intro i q j s v L X N a c m hi hq hv hj hL h0 hX hN hM
    have ei : i = K := by omega
    subst ei
    refine Or.inr ⟨hv, rfl, a, c, m, ?_, hM⟩
    have n1 : ¬ I i < I i := fun z => by have := (I_lt (by omega) (by omega)).mp z; omega
    have k17 : gfd (mm h p G B a c m, r) 5 17 p = some (.int (I i)) := by
      unfold mm; rw [gm17, up_ne _ _ (by decide), e17]
    simp only [x233_115, x233_116, x233_117, x233_120, gk_some, pk_some, qk_some, bnd_v, bnd_n, kl_int, kl_ref, kl_null, kl_un, Nat.reduceAdd, if_true, if_false, k17, n1]
  | succ f ih =>
    intro i q j s v L X N a c m hi hq hv hj hL h0 hX hN hM
    obtain hq | ⟨hq, hs⟩ := hq
    · cases hq
    unfold stq at hq
    obtain ⟨q1, q2, q3, q4⟩ := hq
    have hb := bsF_lt (B 6) n q
    have n1 : I i < I K := (I_lt (by omega) (by omega)).mpr (by omega)
    have k17 : gfd (mm h p G B a c m, r) 5 17 p = some (.int (I K)) := by
      unfold mm; rw [gm17, up_ne _ _ (by decide), e17]
    have i4 : (4 : Int32) * I i = I (4 * i) := I_tim 4 i
    -- the class's reading
    have hR : RD (B 6) n s = rdL (B 6) n q forms 0 q (q, s.2) := by
      show rdL (B 6) n (nxt (B 6) n s).1 forms 0 (nxt (B 6) n s).1 (nxt (B 6) n s) = _
      rw [hs]
      rw [show nxt (B 6) n s = (q, s.2) from Prod.ext hs rfl]
    have rs := rd_same (B 6) n q s.2.2 s.2.1
    rw [if_neg (by rw [q1]; decide)] at rs
    obtain ⟨r1, r2, r3⟩ := rs
    obtain ⟨r3, -, -⟩ := r3 q1
    change (rdL (B 6) n q forms 0 q (q, s.2)).1 = _ at r1
    change (rdL (B 6) n q forms 0 q (q, s.2)).2.1 = _ at r2
    change agE _ ((rdL (B 6) n q forms 0 q (q, s.2)).2.2.1 0) ((rdL (B 6) n q forms 0 q (q, s.2)).2.2.1 1) ((rdL (B 6) n q forms 0 q (q, s.2)).2.2.1 2) _ _ _ at r3
    rw [← hR] at r1 r2 r3
    have hd := doC_ag (agE_tr r3 q3) L
    rw [show rnL (B 6) n (f + 1) s j v L = rnL (B 6) n f (RD (B 6) n s).2 (jR j (RD (B 6) n s).1) (doC (jR j (RD (B 6) n s).1) ((RD (B 6) n s).2.2.1 0) ((RD (B 6) n s).2.2.1 1) ((RD (B 6) n s).2.2.1 2) L).1 (doC (jR j (RD (B 6) n s).1) ((RD (B 6) n s).2.2.1 0) ((RD (B 6) n s).2.2.1 1) ((RD (B 6) n s).2.2.1 2) L).2 by
      rw [rnL, if_neg hv]]
    rw [r1, show jR j (some (bsF (B 6) n q)) = bsF (B 6) n q from rfl, hd]
    generalize hs2 : (RD (B 6) n s).2 = s2 at *
    have hL2 := FL_do hL h0 (by omega) (by omega) (bsF (B 6) n q) (B 10 (4 * i + 1)) (B 10 (4 * i + 2)) (B 10 (4 * i + 3))
    obtain ⟨g', a', c', m', v', y1, y2⟩ := y_all h G B r a c m hp hL h0 (by omega) (by omega) hM (bsF (B 6) n q) hb (B 10 (4 * i + 1)) (B 10 (4 * i + 2)) (B 10 (4 * i + 3))
    generalize hk : bsF (B 6) n q = b at *
    have m10 : (ua (ua B 1 a) 7 c) 10 = B 10 := by rw [ua_ne _ _ (by decide), ua_ne _ _ (by decide)]
    have e232 := m232 h (up G 13 (I m)) (ua (ua B 1 a) 7 c) r (p := p) (w := 4 * i) (k := b) (by omega) hb (by rw [m10]; exact q2) (v := v') (H' := (mm h p g' B a' c' m', r)) (by rw [m10]; exact y1)
    change rcal 232 [.ref p, .int (I (4 * i))] (mm h p G B a c m, r) = _ at e232
    have rv : recv (mm h p G B a c m, r) p 5 = true := by unfold mm; exact rvM ..
    have k9 : gfd (mm h p g' B a' c' m', r) 5 9 p = some (.int (g' 9)) := by
      unfold mm; rw [gm9, up_ne _ _ (by decide)]
    generalize doC b (B 10 (4 * i + 1)) (B 10 (4 * i + 2)) (B 10 (4 * i + 3)) L = d at *
    obtain ⟨d1, d2, d3, d4, d5⟩ | ⟨d1, d3, d4, d5⟩ := y2
    · have t9 : 0 < g' 9 := by rw [d3, up_eq]; exact thr_pos _ _
      subst d5
      rw [rnL_neg d1]
      have lb := l233b h r hp (up g' 13 (I m')) (.int 0) (I i) 76 0 (ua (ua B 1 a') 7 c') rfl
      rw [show I 0 = 0 from rfl] at lb
      change rn 233 139 [.ref p, .int 0, .int (I i), .int 0] [] (mm h p g' B a' c' m', r) = _ at lb
      have p8 := pm8 h (up g' 13 (I m')) (ua (ua (ua B 1 a') 7 c') 1 (cpA 0 76 (ua (ua B 1 a') 7 c' 2) (ua (ua B 1 a') 7 c' 1))) r hp (I i)
      have t150 := m150 h (up (up g' 13 (I m')) 8 (I i)) r hp (ua (ua (ua B 1 a') 7 c') 1 (cpA 0 76 (ua (ua B 1 a') 7 c' 2) (ua (ua B 1 a') 7 c' 1))) 2
      refine Or.inl ⟨d1, up (up (up g' 13 (I m')) 8 (I i)) 9 2, ua (ua (ua B 1 a') 7 c') 1 (cpA 0 76 (ua (ua B 1 a') 7 c' 2) (ua (ua B 1 a') 7 c' 1)), ?_, fun x hx => ?_, fun k k1 k7 => ?_, ?_, ?_, fun k k8 k9 k13 => ?_⟩
      · simp only [x233_115, x233_116, x233_117, x233_120, x233_123, x233_124, x233_125, x233_126, x233_127, x233_130, x233_131, x233_134, x233_137, x233_138, x233_163, x233_164, x233_165, x233_168, x233_169, x233_170, x233_173, gk_some, pk_some, qk_some, bnd_v, bnd_n, kl_int, kl_ref, kl_null, kl_un, Nat.reduceAdd, if_true, if_false, rvM, k17, n1, i4, rv, e232, k9, t9, lb, p8, t150]
      · rw [ua_eq, cpA_lt _ _ hx, ua_ne _ _ (by decide), ua_ne _ _ (by decide)]
      · rw [ua_ne _ _ k1, ua_ne _ _ k7, ua_ne _ _ k1]
      · rw [up_ne _ _ (by decide), up_eq]
        show I i = I (K - f) - 1
        rw [show K - f = i + 1 by omega, I_sub1 (by omega)]
        rfl
      · exact up_eq _ _ _
      · rw [up_ne _ _ k9, up_ne _ _ k8, up_ne _ _ k13, d3, up_ne _ _ k9]
    · have d3' := d3.symm
      subst d3'
      have t9 : ¬ 0 < G 9 := by rw [e9]; decide
      have iq : f = 0 ∨ (stq (B 6) n (B 10) f (i + 1) ((spc (B 6) n q).2.1 + 1) ∧ (nxt (B 6) n s2).1 = (spc (B 6) n q).2.1 + 1) := by
        obtain z | ⟨z1, z2⟩ := q4
        · exact Or.inl z
        · refine Or.inr ⟨z2, ?_⟩
          unfold nxt
          rw [r2, z1]; rfl
      have st : rn 233 115 [.ref p, .int 0, .int (I i), un] [] (mm h p G B a c m, r) = rn 233 115 [.ref p, .int 0, .int (I (i + 1)), un] [] (mm h p G B a' c' m', r) := by
        rw [x233_115, x233_116, x233_117, k17]
        simp only [x233_120, x233_123, x233_124, x233_125, x233_126, x233_127, x233_130, x233_131, x233_134, x233_174, x233_177, gk_some, pk_some, qk_some, bnd_v, bnd_n, kl_int, kl_ref, kl_null, kl_un, Nat.reduceAdd, if_true, if_false, n1, i4, rv, e232, k9, t9, I_1]
      rw [st]
      exact ih (i + 1) ((spc (B 6) n q).2.1 + 1) b s2 d.1 d.2 (X + 60) (N + 1) a' c' m' (by omega) iq d1 hb hL2 (by omega) (by omega) (by omega) d5
end MRUN3
