/-! the start of the law, and its whole run -/
theorem FL_0 : FL 0 0 L0 := by
  have hp : prs L0.2.2.2.2 = [] := by decide
  refine ⟨0, ⟨WS_0, ⟨rfl, by decide⟩, ?_, ⟨fun k hk => absurd hk (by omega), fun k _ => ⟨by show (0 : Int) ≤ Z 0; decide, by show Z 0 ≤ (4 : Int); decide⟩⟩, ⟨by decide, by decide, by decide⟩, ?_, ?_, ?_, ?_, ?_⟩, ⟨L0.2.2.2.2, ?_, ?_⟩, ?_, ?_, by decide, fun k hk => absurd hk (by omega)⟩
  · show L0.1 5 = I (prs L0.2.2.2.2).length
    rw [hp]; rfl
  · intro s hs
    change s ∈ prs L0.2.2.2.2 at hs
    rw [hp] at hs; cases hs
  · show SRT (prs L0.2.2.2.2)
    rw [hp]
    intro D s R e
    cases D <;> cases e
  · intro s hs
    change s ∈ prs L0.2.2.2.2 at hs
    rw [hp] at hs; cases hs
  · intro k hk; exact absurd hk (by omega)
  · show TT L0.1 (prs L0.2.2.2.2).length
    rw [hp]
    exact ⟨by decide, by decide, by decide, by decide, by decide, by decide, by decide, fun _ => by decide, by decide, by decide⟩
  · rw [hp]; rfl
  · intro s hs
    simp only [L0, List.mem_cons, List.not_mem_nil, or_false] at hs
    rcases hs with rfl | rfl | rfl | rfl | rfl | rfl <;> rfl
  · intro s hs
    rw [hp] at hs; cases hs
  · intro k hk
    have k0 : k = 0 := by omega
    subst k0
    decide
theorem MRL_0 : MRL (A0 1) L0 := by
  have hp : prs L0.2.2.2.2 = [] := by decide
  refine ⟨⟨rfl, rfl, rfl, rfl, rfl, rfl, rfl, rfl, fun _ _ => rfl, fun _ _ => rfl⟩, ?_, ?_⟩
  · rw [hp]
    refine ⟨rfl, by decide, fun D s R e => ?_⟩
    cases D <;> cases e
  · intro i _ _; rfl
theorem init_ok (xs : List Int32) : ∃ H, rn 281 0 [.ref 0, un, un, un, un, un, un, un, un] [] (hcx xs, 32, 0, 0) = rn 281 28 [.ref 0, .ref 32, .ref 172, .ref 184, .ref 185, .int (I (4 * 0)), un, un, un] [] H ∧ GR xs 0 H := by
  have pe : ∀ (h : PH) (a : Nat) (o : PO), pu h a o a = some o := fun h a o => by simp [pu]
  have po : ∀ (h : PH) (a : Nat) (o : PO) (b : Nat), b ≠ a → pu h a o b = h b := fun h a o b hb => by simp [pu, hb]
  have n1 : hsn (hcx xs, 32, 0, 0) (0, dF 0) 9 = (pu (hcx xs) 32 (0, dF 0), 33, 1, 9) := rfl
  have ck : CK (pu (hcx xs) 32 (0, dF 0)) := fun b b1 b2 => by
    rw [po _ _ _ _ (by omega)]
    unfold hcx
    rw [if_neg (by omega)]
  obtain ⟨h1, e1, ak, pa, sb, f1⟩ := m90 (pu (hcx xs) 32 (0, dF 0)) 1 9 ck (pe _ _ _)
  have n2 : hsn (h1, 172, 1 + 139, 9 + 1434) (5, dF 5) 23 = (pu h1 172 (5, dF 5), 173, 1 + 139 + 1, 9 + 1434 + 23) := rfl
  obtain ⟨h2, e2, mp, f2⟩ := m148 (1 + 139 + 1) (9 + 1434 + 23) (pu h1 172 (5, dF 5)) (pe _ _ _)
  have k0 : h2 0 = some (100, xs.map .int) := by
    rw [f2 0 (by omega), po _ _ _ _ (by decide), f1 0 (by decide), po _ _ _ _ (by decide)]; rfl
  have fr : ∀ b, b < 172 → h2 b = h1 b := fun b hb => by rw [f2 b (by omega), po _ _ _ _ (by omega)]
  have n3 : ∀ c s, hsn (h2, 184, c, s) (103, List.replicate 1 (.long 0)) 1 = (pu h2 184 (103, [.long 0]), 185, c + 1, s + 1) := fun _ _ => rfl
  have n4 : ∀ c s, hsn (pu h2 184 (103, [.long 0]), 185, c, s) (104, List.replicate 1 (.double 0)) 1 = (pu (pu h2 184 (103, [.long 0])) 185 (104, [.double 0]), 186, c + 1, s + 1) := fun _ _ => rfl
  have C0 : CPr xs h2 (186, 154, 2865) 154 2865 L0 L0 (fun _ => L0) 0 0 0 (-1) (-1) (A0 6) 0 0 (A0 11) := ⟨k0, ⟨L0, AK_frame ak (fun b b1 b2 => fr b (by omega))⟩, ⟨6, 0, (0, (fun _ => 0), 0), by decide, ⟨by decide, by decide⟩, PAt_frame pa (fun b b1 b2 => fr b (by omega))⟩, 0, (fun _ => 0), 0, SB_frame sb (fun b hb => fr b (by
    obtain rfl | rfl := hb
    · decide
    · decide)), by decide, by decide, rfl, fun k hk => absurd hk (by omega)⟩
  have C1 := CPr_frame (h' := pu (pu h2 184 (103, [.long 0])) 185 (104, [.double 0])) C0 (fun b hb => by rw [po _ _ _ _ (by omega), po _ _ _ _ (by omega)])
  have M1 := MP_frame (h' := pu (pu h2 184 (103, [.long 0])) 185 (104, [.double 0])) mp (fun b b1 b2 => by rw [po _ _ _ _ (by omega), po _ _ _ _ (by omega)])
  have O1 : OUTs (pu (pu h2 184 (103, [.long 0])) 185 (104, [.double 0])) := ⟨⟨0, by rw [po _ _ _ _ (by decide), pe]⟩, 0, pe _ _ _⟩
  refine ⟨(pu (pu h2 184 (103, [.long 0])) 185 (104, [.double 0]), 186, 154, 2865), ?_, 154, 2865, L0, L0, fun _ => L0, 0, 0, 0, -1, -1, 0, 0, g0, A0, C1, M1, O1, ⟨MRL_0, FL_0, ⟨rfl, by decide⟩, ⟨rfl, by decide, fun k hk => absurd hk (by omega)⟩, ⟨rfl, rfl⟩, rfl, ⟨rfl, Or.inl rfl, fun q => absurd q (by decide)⟩, fun q hq => absurd hq (by omega)⟩, by decide, by decide, by decide⟩
  simp only [Nat.reduceAdd] at e1 n2 e2
  simp only [x281_0, x281_3, x281_4, x281_7, x281_8, x281_11, x281_12, x281_15, x281_16, x281_17, x281_19, x281_20, x281_21, x281_23, x281_25, x281_26, gk_some, pk_some, qk_some, bnd_v, bnd_n, kl_int, kl_ref, kl_null, kl_un, Nat.reduceAdd, if_true, if_false, nv1, tn1, n1, e1, n2, e2, n3, n4, Nat.mul_zero] <;> rfl
theorem law_pure (nd : ndK) (nf : nfK) (xs : List Int32) (hl : xs.length ≤ 2048) : ∃ H', rcal 281 [.ref 0] (hcx xs, 32, 0, 0) = some (.inl (some (.int 1)), H') ∧ H'.2.2.1 ≤ 603072 ∧ H'.2.2.2 ≤ 7194730 := by
  obtain ⟨H, e1, R⟩ := init_ok xs
  obtain ⟨t', H', e2, R', ht⟩ := law_loop nd nf hl (xs.length / 4) 0 H un un un R (by omega)
  obtain ⟨b1, b2⟩ := GR_end R' ht
  exact ⟨H', by rw [c281, e1, e2], b1, b2⟩
