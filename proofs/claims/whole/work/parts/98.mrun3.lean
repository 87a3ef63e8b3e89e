/-! the reference's run, whole -/
/-- what a changing call keeps of the past -/
def psh (ct : Nat) (src dst : Nat → Int32) : Nat → Int32 := if ct < 8 then cpB ct 0 src dst else cpB 7 0 src (shA 0 dst)
/-- what a run leaves of the reference's numbers and arrays -/
def kgR (g g2 : Nat → Int32) : Prop := g2 4 = g 4 ∧ g2 22 = g 22 ∧ g2 11 = 0
def kAR (A A2 : Nat → Nat → Int32) : Prop := A2 4 = A 4 ∧ A2 6 = A 6 ∧ A2 11 = A 11
theorem gE_0 (g1 : Nat → Int32) : up (up (up g1 18 0) 17 0) 20 0 = gE (up g1 17 (I 0)) false 0 := by
  funext i
  unfold gE up
  rw [show I 0 = 0 from rfl, b2i_f]
  by_cases a : i = 18
  · subst a; simp
  · by_cases b : i = 20
    · subst b; simp
    · simp [a, b]
section MRUN4
variable (h : PH) {p : Nat} (g : Nat → Int32) (r : Nat × Nat × Nat)
theorem m153a (hp : 32 ≤ p) (A : Nat → Nat → Int32) (v : Int32) (e9 : g 9 = 0) {ct : Nat} (hc : ct ≤ 8) (e6 : g 6 = I ct) : rcal 153 [.ref p, .int v] (mput h p g A, r) = some (.inl (some (.int v)), (mput h p (up g 6 (I (min (ct + 1) 8))) (ua A 5 (psh ct (A 2) (A 5))), r)) := by
  have o : ¬ 0 < g 9 := by rw [e9]; decide
  unfold psh
  by_cases c : ct < 8
  · rw [if_pos c, show min (ct + 1) 8 = ct + 1 by omega]
    exact m153 h g r hp A v o c e6
  · rw [if_neg c, show min (ct + 1) 8 = 8 by omega]
    exact m153f h g r hp A v o (by rw [e6, show ct = 8 by omega]; rfl)
theorem s233 (hp : 32 ≤ p) (A : Nat → Nat → Int32) {n : Nat} (e11 : g 11 = I n) : rcal 233 [.ref p] (mput h p g A, r) = rn 233 34 [.ref p, .int 1, un, un] [] (mput h p (gE (up (up (up (up g 9 0) 19 (I n)) 11 0) 17 (I 0)) false 0) (ua A 2 (cpA 0 76 (A 1) (A 2))), r) := by
  have t := m152 h g r hp A
  have k11 : up g 9 0 11 = I n := by rw [up_ne _ _ (by decide)]; exact e11
  have w19 := pm19 h (up g 9 0) (ua A 2 (cpA 0 76 (A 1) (A 2))) r hp (I n)
  have w11 := pm11 h (up (up g 9 0) 19 (I n)) (ua A 2 (cpA 0 76 (A 1) (A 2))) r hp 0
  have w18 := pm18 h (up (up (up g 9 0) 19 (I n)) 11 0) (ua A 2 (cpA 0 76 (A 1) (A 2))) r hp 0
  have w17 := pm17 h (up (up (up (up g 9 0) 19 (I n)) 11 0) 18 0) (ua A 2 (cpA 0 76 (A 1) (A 2))) r hp 0
  have w20 := pm20_0 h (up (up (up (up (up g 9 0) 19 (I n)) 11 0) 18 0) 17 0) (ua A 2 (cpA 0 76 (A 1) (A 2))) r hp
  rw [gE_0] at w20
  simp only [c233, x233_0, x233_1, x233_4, x233_5, x233_6, x233_9, x233_12, x233_13, x233_14, x233_17, x233_18, x233_19, x233_22, x233_23, x233_24, x233_27, x233_28, x233_29, x233_32, x233_33, gk_some, pk_some, qk_some, bnd_v, bnd_n, kl_int, kl_ref, kl_null, kl_un, Nat.reduceAdd, if_true, if_false, gm0, gm1, gm2, gm3, gm4, gm5, gm6, gm7, gm8, gm9, gm10, gm11, gm12, gm13, gm14, gm15, gm16, gm17, gm18, gm19, gm20, gm21, gm22, rvM, t, k11, w19, w11, w18, w17, w20]
theorem mm_id (B : Nat → Nat → Int32) {m : Nat} (e : g 13 = I m) : mm h p g B (B 1) (B 7) m = mput h p g B := by
  unfold mm; rw [← e, up_self, ua_self, ua_self]
theorem m233 (hp : 32 ≤ p) (A : Nat → Nat → Int32) {n ct j : Nat} {s : PS} {L : LN} {X N : Int} (e11 : g 11 = I n) (hn : n ≤ 60) (e6 : g 6 = I ct) (hc : ct ≤ 8) (hL : FL X N L) (h0 : 0 ≤ X) (hX : X + 60 * n ≤ 31000) (hN : N + n ≤ 512) (hM : MRL (A 1) L) :
    (¬ (FE (A 6) n (5 + j) s).1 = -1 ∧ ∃ g2 A2, rcal 233 [.ref p] (mput h p g A, r) = some (.inl (some (.int (-1))), (mput h p g2 A2, r)) ∧ kgR g g2 ∧ kAR A A2 ∧ g2 9 = 1 ∧ g2 6 = g 6 ∧ g2 7 = (FE (A 6) n (5 + j) s).1 ∧ g2 8 = g 8 ∧ A2 5 = A 5 ∧ A2 1 = A 1) ∨
    ((FE (A 6) n (5 + j) s).1 = -1 ∧ (FE (A 6) n (5 + j) s).2.1 ≤ n ∧ ∀ j', j' < 7 →
      (((RN (A 6) n j' (FE (A 6) n (5 + j) s) L).1 < 0 ∧ ∃ g2 A2, rcal 233 [.ref p] (mput h p g A, r) = some (.inl (some (.int (-1))), (mput h p g2 A2, r)) ∧ kgR g g2 ∧ kAR A A2 ∧ g2 9 = 2 ∧ g2 6 = g 6 ∧ g2 7 = g 7 ∧ g2 8 = I ((FE (A 6) n (5 + j) s).2.1 - (RN (A 6) n j' (FE (A 6) n (5 + j) s) L).2.1) - 1 ∧ A2 5 = A 5 ∧ ∀ x, x < 76 → A2 1 x = A 1 x) ∨
       (¬ (RN (A 6) n j' (FE (A 6) n (5 + j) s) L).1 < 0 ∧ (RN (A 6) n j' (FE (A 6) n (5 + j) s) L).2.1 = 0 ∧ ∃ g2 A2, rcal 233 [.ref p] (mput h p g A, r) = some (.inl (some (.int (I (FE (A 6) n (5 + j) s).2.1))), (mput h p g2 A2, r)) ∧ kgR g g2 ∧ kAR A A2 ∧ g2 9 = 0 ∧ g2 6 = I (min (ct + 1) 8) ∧ g2 7 = g 7 ∧ g2 8 = g 8 ∧ A2 5 = psh ct (cpA 0 76 (A 1) (A 2)) (A 5) ∧ MRL (A2 1) (RN (A 6) n j' (FE (A 6) n (5 + j) s) L).2.2.2.2))) := by
  have e0 := s233 h g r hp A e11
  have a6 : ua A 2 (cpA 0 76 (A 1) (A 2)) 6 = A 6 := ua_ne A _ (by decide)
  have a10 : ua (ua A 2 (cpA 0 76 (A 1) (A 2))) 10 (ua A 2 (cpA 0 76 (A 1) (A 2)) 10) = ua A 2 (cpA 0 76 (A 1) (A 2)) := ua_self _ _
  have l := l233 h (up (up (up g 9 0) 19 (I n)) 11 0) r hp (ua A 2 (cpA 0 76 (A 1) (A 2))) hn (by rw [up_ne _ _ (by decide), up_eq]) 60 0 0 (ua A 2 (cpA 0 76 (A 1) (A 2)) 10) (by decide) (by decide) (by decide)
  rw [a6, a10] at l
  obtain ⟨er, q', cn', C', l1, -, l3, l4⟩ := l
  rw [l1] at e0
  obtain ⟨l5, l6⟩ := l4 0 j (0, s.2) rfl
  change er = true → (FE (A 6) n (5 + j) s).1 = I q' at l5
  change er = false → (FE (A 6) n (5 + j) s).1 = -1 ∧ ∃ m, 1 ≤ m ∧ cn' = 0 + m ∧ (FE (A 6) n (5 + j) s).2.1 = 0 + m ∧ 0 + m ≤ n ∧ stq (A 6) n C' m 0 0 at l6
  generalize FE (A 6) n (5 + j) s = F at *
  have hB : ∀ k, k ≠ 2 → k ≠ 10 → ua (ua A 2 (cpA 0 76 (A 1) (A 2))) 10 C' k = A k := fun k k2 k10 => by rw [ua_ne _ _ k10, ua_ne _ _ k2]
  have hB2 : ua (ua A 2 (cpA 0 76 (A 1) (A 2))) 10 C' 2 = cpA 0 76 (A 1) (A 2) := by rw [ua_ne _ _ (by decide), ua_eq]
  have hB10 : ua (ua A 2 (cpA 0 76 (A 1) (A 2))) 10 C' 10 = C' := ua_eq _ _ _
  have hG : ∀ k, k ≠ 9 → k ≠ 19 → k ≠ 11 → k ≠ 17 → k ≠ 20 → k ≠ 18 → gE (up (up (up (up g 9 0) 19 (I n)) 11 0) 17 (I cn')) er q' k = g k := fun k k9 k19 k11 k17 k20 k18 => by rw [gE_o _ _ _ k18 k20, up_ne _ _ k17, up_ne _ _ k11, up_ne _ _ k19, up_ne _ _ k9]
  have hG11 : gE (up (up (up (up g 9 0) 19 (I n)) 11 0) 17 (I cn')) er q' 11 = 0 := by rw [gE_o _ _ _ (by decide) (by decide), up_ne _ _ (by decide), up_eq]
  have hG9 : gE (up (up (up (up g 9 0) 19 (I n)) 11 0) 17 (I cn')) er q' 9 = 0 := by rw [gE_o _ _ _ (by decide) (by decide), up_ne _ _ (by decide), up_ne _ _ (by decide), up_ne _ _ (by decide), up_eq]
  have hG17 : gE (up (up (up (up g 9 0) 19 (I n)) 11 0) 17 (I cn')) er q' 17 = I cn' := by rw [gE_o _ _ _ (by decide) (by decide), up_eq]
  have hG18 := gE_18 (up (up (up (up g 9 0) 19 (I n)) 11 0) 17 (I cn')) er q'
  have hG20 := gE_20 (up (up (up (up g 9 0) 19 (I n)) 11 0) 17 (I cn')) er q'
  generalize gE (up (up (up (up g 9 0) 19 (I n)) 11 0) 17 (I cn')) er q' = G at *
  generalize ua (ua A 2 (cpA 0 76 (A 1) (A 2))) 10 C' = B at *
  cases er with
  | true =>
    have f1 := l5 rfl
    have o1 : ¬ (1 : Int32) = 0 := by decide
    refine Or.inl ⟨?_, up (up G 7 (I q')) 9 1, B, ?_, ⟨?_, ?_, ?_⟩, ⟨hB 4 (by decide) (by decide), hB 6 (by decide) (by decide), hB 11 (by decide) (by decide)⟩, up_eq _ _ _, ?_, ?_, ?_, hB 5 (by decide) (by decide), hB 1 (by decide) (by decide)⟩
    · rw [f1]
      intro y
      have y2 : Z (I q') = -1 := by rw [y]; rfl
      rw [Z_I (by omega)] at y2; omega
    · rw [e0]
      have w7 := pm7 h G B r hp (I q')
      have t := m150 h (up G 7 (I q')) r hp B 1
      simp only [x233_92, x233_93, x233_96, x233_99, x233_100, x233_101, x233_104, x233_107, x233_108, x233_109, x233_112, gk_some, pk_some, qk_some, bnd_v, bnd_n, kl_int, kl_ref, kl_null, kl_un, Nat.reduceAdd, if_true, if_false, gm0, gm1, gm2, gm3, gm4, gm5, gm6, gm7, gm8, gm9, gm10, gm11, gm12, gm13, gm14, gm15, gm16, gm17, gm18, gm19, gm20, gm21, gm22, rvM, hG20, b2i_t, o1, hG18, w7, t]
    · rw [up_ne _ _ (by decide), up_ne _ _ (by decide)]; exact hG 4 (by decide) (by decide) (by decide) (by decide) (by decide) (by decide)
    · rw [up_ne _ _ (by decide), up_ne _ _ (by decide)]; exact hG 22 (by decide) (by decide) (by decide) (by decide) (by decide) (by decide)
    · rw [up_ne _ _ (by decide), up_ne _ _ (by decide)]; exact hG11
    · rw [up_ne _ _ (by decide), up_ne _ _ (by decide)]; exact hG 6 (by decide) (by decide) (by decide) (by decide) (by decide) (by decide)
    · rw [up_ne _ _ (by decide), up_eq, f1]
    · rw [up_ne _ _ (by decide), up_ne _ _ (by decide)]; exact hG 8 (by decide) (by decide) (by decide) (by decide) (by decide) (by decide)
  | false =>
    obtain ⟨f1, m, m1, m2, m3, m4, m5⟩ := l6 rfl
    rw [Nat.zero_add] at m2 m3 m4
    subst m2
    refine Or.inr ⟨f1, by omega, fun j' hj' => ?_⟩
    obtain ⟨m13, e13⟩ := I_ex (G 13)
    have id := mm_id h (p := p) G B e13
    have hk : stq (B 6) n (B 10) cn' 0 0 := by rw [hB 6 (by decide) (by decide), hB10]; exact m5
    have hx : (nxt (A 6) n (0, F.2.2.1.2)).1 = 0 := by
      cases cn' with
      | zero => omega
      | succ c0 =>
        unfold stq at m5
        have z := spc_sgn m5.1
        unfold nxt
        rw [z]; rfl
    have d := d233 h r hp G B (K := cn') hn (by omega) hG17 hG9 cn' 0 0 j' (0, F.2.2.1.2) 0 L X N (B 1) (B 7) m13 (Nat.add_zero _) (Or.inr ⟨hk, by rw [hB 6 (by decide) (by decide)]; exact hx⟩) (by decide) hj' hL h0 (by omega) (by omega) (by rw [hB 1 (by decide) (by decide)]; exact hM)
    rw [id, hB 6 (by decide) (by decide), hB2] at d
    have hR : RN (A 6) n j' F L = rnL (A 6) n cn' (0, F.2.2.1.2) j' 0 L := by
      show rnL (A 6) n F.2.1 (0, F.2.2.1.2) j' 0 L = _
      rw [m3]
    rw [hR, m3]
    generalize rnL (A 6) n cn' (0, F.2.2.1.2) j' 0 L = R at *
    have st : rn 233 92 [.ref p, .int 0, un, un] [] (mput h p G B, r) = rn 233 115 [.ref p, .int 0, .int (I 0), un] [] (mput h p G B, r) := by
      rw [show I 0 = 0 from rfl]
      simp only [x233_92, x233_93, x233_96, x233_113, x233_114, gk_some, pk_some, qk_some, bnd_v, bnd_n, kl_int, kl_ref, kl_null, kl_un, Nat.reduceAdd, if_true, if_false, gm0, gm1, gm2, gm3, gm4, gm5, gm6, gm7, gm8, gm9, gm10, gm11, gm12, gm13, gm14, gm15, gm16, gm17, gm18, gm19, gm20, gm21, gm22, rvM, hG20, b2i_f]
    rw [st] at e0
    obtain ⟨d1, g2, A2, d2, d3, d4, d5, d6, d7⟩ | ⟨d1, d2, a', c', m', d3, d4⟩ := d
    · rw [d2] at e0
      refine Or.inl ⟨d1, g2, A2, e0, ⟨?_, ?_, ?_⟩, ⟨?_, ?_, ?_⟩, d6, ?_, ?_, d5, ?_, fun x hx => ?_⟩
      · rw [d7 4 (by decide) (by decide) (by decide)]; exact hG 4 (by decide) (by decide) (by decide) (by decide) (by decide) (by decide)
      · rw [d7 22 (by decide) (by decide) (by decide)]; exact hG 22 (by decide) (by decide) (by decide) (by decide) (by decide) (by decide)
      · rw [d7 11 (by decide) (by decide) (by decide)]; exact hG11
      · rw [d4 4 (by decide) (by decide)]; exact hB 4 (by decide) (by decide)
      · rw [d4 6 (by decide) (by decide)]; exact hB 6 (by decide) (by decide)
      · rw [d4 11 (by decide) (by decide)]; exact hB 11 (by decide) (by decide)
      · rw [d7 6 (by decide) (by decide) (by decide)]; exact hG 6 (by decide) (by decide) (by decide) (by decide) (by decide) (by decide)
      · rw [d7 7 (by decide) (by decide) (by decide)]; exact hG 7 (by decide) (by decide) (by decide) (by decide) (by decide) (by decide)
      · rw [d4 5 (by decide) (by decide)]; exact hB 5 (by decide) (by decide)
      · rw [d3 x hx]; exact cpA_lt _ _ hx
    · rw [d3] at e0
      have k17 : (up G 13 (I m')) 17 = I cn' := by rw [up_ne _ _ (by decide)]; exact hG17
      have k9 : (up G 13 (I m')) 9 = 0 := by rw [up_ne _ _ (by decide)]; exact hG9
      have k6 : (up G 13 (I m')) 6 = I ct := by rw [up_ne _ _ (by decide), hG 6 (by decide) (by decide) (by decide) (by decide) (by decide) (by decide)]; exact e6
      have t := m153a h (up G 13 (I m')) r hp (ua (ua B 1 a') 7 c') (I cn') k9 hc k6
      have b2 : ua (ua B 1 a') 7 c' 2 = cpA 0 76 (A 1) (A 2) := by rw [ua_ne _ _ (by decide), ua_ne _ _ (by decide)]; exact hB2
      have b5 : ua (ua B 1 a') 7 c' 5 = A 5 := by rw [ua_ne _ _ (by decide), ua_ne _ _ (by decide)]; exact hB 5 (by decide) (by decide)
      rw [b2, b5] at t
      refine Or.inr ⟨d1, d2, up (up G 13 (I m')) 6 (I (min (ct + 1) 8)), ua (ua (ua B 1 a') 7 c') 5 (psh ct (cpA 0 76 (A 1) (A 2)) (A 5)), ?_, ⟨?_, ?_, ?_⟩, ⟨?_, ?_, ?_⟩, ?_, up_eq _ _ _, ?_, ?_, ua_eq _ _ _, ?_⟩
      · rw [e0]
        unfold mm
        simp only [x233_180, x233_181, x233_182, x233_185, x233_188, gk_some, pk_some, qk_some, bnd_v, bnd_n, kl_int, kl_ref, kl_null, kl_un, Nat.reduceAdd, if_true, if_false, gm0, gm1, gm2, gm3, gm4, gm5, gm6, gm7, gm8, gm9, gm10, gm11, gm12, gm13, gm14, gm15, gm16, gm17, gm18, gm19, gm20, gm21, gm22, rvM, k17, t]
      · rw [up_ne _ _ (by decide), up_ne _ _ (by decide)]; exact hG 4 (by decide) (by decide) (by decide) (by decide) (by decide) (by decide)
      · rw [up_ne _ _ (by decide), up_ne _ _ (by decide)]; exact hG 22 (by decide) (by decide) (by decide) (by decide) (by decide) (by decide)
      · rw [up_ne _ _ (by decide), up_ne _ _ (by decide)]; exact hG11
      · rw [ua_ne _ _ (by decide), ua_ne _ _ (by decide), ua_ne _ _ (by decide)]; exact hB 4 (by decide) (by decide)
      · rw [ua_ne _ _ (by decide), ua_ne _ _ (by decide), ua_ne _ _ (by decide)]; exact hB 6 (by decide) (by decide)
      · rw [ua_ne _ _ (by decide), ua_ne _ _ (by decide), ua_ne _ _ (by decide)]; exact hB 11 (by decide) (by decide)
      · rw [up_ne _ _ (by decide)]; exact k9
      · rw [up_ne _ _ (by decide), up_ne _ _ (by decide)]; exact hG 7 (by decide) (by decide) (by decide) (by decide) (by decide) (by decide)
      · rw [up_ne _ _ (by decide), up_ne _ _ (by decide)]; exact hG 8 (by decide) (by decide) (by decide) (by decide) (by decide) (by decide)
      · rw [ua_ne _ _ (by decide), ua_ne _ _ (by decide), ua_eq]; exact d4
end MRUN4
