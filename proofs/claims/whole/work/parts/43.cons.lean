/-! the line's invariants as it asks them, and a copy of a line -/
section CONS
variable (h : PH) {p : Nat} (f tk rt ps : Nat → Int32) (S : List SL) (r : Nat × Nat × Nat) {j i : Nat}
theorem l65 (w : WS S) {n : Nat} (hn : f 0 = I n) (h7 : n ≤ 7) (hf : ∀ a, a < n → ¬ freN tk S (I a) < 0) : ∀ (c a : Nat), a + c = n → rn 65 2 [.ref p, .int (I a)] [] (put h p f tk rt ps S, r) = some (.inl (some (.int 1)), (put h p f tk rt ps S, r)) := by
  intro c
  induction c with
  | zero =>
    intro a ha
    have hlt : ¬ I a < I n := by rw [I_lt (by omega) (by omega)]; omega
    rw [x65_2]
    simp only [x65_0, x65_1, x65_3, x65_4, x65_7, x65_10, x65_11, x65_12, x65_15, x65_18, x65_19, x65_20, x65_23, x65_26, x65_27, gk_some, pk_some, qk_some, bnd_v, bnd_n, kl_int, kl_ref, kl_null, kl_un, Nat.reduceAdd, if_true, if_false, gl0, gl1, gl2, gl3, gl4, gl5, gl6, gl7, gl8, gl9, gl10, gl11, gl12, hn, hlt, fit1, fit0, fitb, b2i_t, b2i_f, reduceIte, decide_true, decide_false]
  | succ c ih =>
    intro a ha
    have hlt : I a < I n := by rw [I_lt (by omega) (by omega)]; omega
    have hm := m60 h f tk rt ps S r (p := p) w hn h7 (v := I a) (I_nn (by omega)) hlt
    have ih' := ih (a + 1) (by omega)
    rw [x65_2]
    simp only [x65_0, x65_1, x65_3, x65_4, x65_7, x65_10, x65_11, x65_12, x65_15, x65_18, x65_19, x65_20, x65_23, x65_26, x65_27, gk_some, pk_some, qk_some, bnd_v, bnd_n, kl_int, kl_ref, kl_null, kl_un, Nat.reduceAdd, if_true, if_false, gl0, gl1, gl2, gl3, gl4, gl5, gl6, gl7, gl8, gl9, gl10, gl11, gl12, rvL, rvT, alL, ln1, ln2, ln3, hn, hlt, hm, hf a (by omega), I_1, ih']
theorem m65 (w : WS S) {n : Nat} (hn : f 0 = I n) (h7 : n ≤ 7) (hf : ∀ a, a < n → ¬ freN tk S (I a) < 0) : rcal 65 [.ref p] (put h p f tk rt ps S, r) = some (.inl (some (.int 1)), (put h p f tk rt ps S, r)) := by
  have e : rn 65 2 [.ref p, .int 0] [] (put h p f tk rt ps S, r) = _ := l65 h f tk rt ps S r (p := p) w hn h7 hf n 0 (by omega)
  simp only [c65, x65_0, x65_1, x65_3, x65_4, x65_7, x65_10, x65_11, x65_12, x65_15, x65_18, x65_19, x65_20, x65_23, x65_26, x65_27, gk_some, pk_some, qk_some, bnd_v, bnd_n, kl_int, kl_ref, kl_null, kl_un, Nat.reduceAdd, if_true, if_false, e]
theorem l66 (w : WS S) (hp : 32 ≤ p) (hs : ∀ s, s ∈ S → s.2.1 = 4 → ∃ t, S.find? (holP (s.2.2 7)) = some (s.1, t)) : ∀ (R D : List SL) (i : Int32) (z : Value), S = D ++ R → i = I D.length → rn 66 10 [.ref p, .ref (p + 4), .int (I 6), .int i, z] [] (put h p f tk rt ps S, r) = some (.inl (some (.int 1)), (put h p f tk rt ps S, r)) := by
  intro R
  induction R with
  | nil =>
    intro D i z hS hi
    have hl := end_ w hS
    rw [x66_10]
    simp only [x66_0, x66_1, x66_4, x66_5, x66_6, x66_7, x66_8, x66_9, x66_11, x66_12, x66_15, x66_16, x66_17, x66_18, x66_20, x66_22, x66_25, x66_28, x66_31, x66_32, x66_34, x66_37, x66_40, x66_42, x66_45, x66_46, x66_47, x66_50, x66_53, x66_54, gk_some, pk_some, qk_some, bnd_v, bnd_n, kl_int, kl_ref, kl_null, kl_un, Nat.reduceAdd, if_true, if_false, hi, hl, nlt6, fit1, fit0, fitb, b2i_t, b2i_f, reduceIte, decide_true, decide_false]
  | cons s R ih =>
    intro D i z hS hi
    obtain ⟨h1, h2, h3, h4, h5⟩ := mid_ w hS
    have ha := at_mid h f tk rt ps S r (p := p) hS (by rw [w.1]; decide)
    have ih' := fun z => ih (D ++ [s]) (I D.length + 1) z (sub_ hS) (len_ D s)
    have hm := m59 h f tk rt ps S r (p := p) w (s.2.2 7)
    have hq := req_t h f tk rt ps S r hp h1 h1
    rw [x66_10]
    simp only [x66_0, x66_1, x66_4, x66_5, x66_6, x66_7, x66_8, x66_9, x66_11, x66_12, x66_15, x66_16, x66_17, x66_18, x66_20, x66_22, x66_25, x66_28, x66_31, x66_32, x66_34, x66_37, x66_40, x66_42, x66_45, x66_46, x66_47, x66_50, x66_53, x66_54, gk_some, pk_some, qk_some, bnd_v, bnd_n, kl_int, kl_ref, kl_null, kl_un, Nat.reduceAdd, if_true, if_false, gt0, gt1, gt2, gt3, gt4, gt5, gt6, gt7, gt8, gt9, gt10, gt11, rvL, rvT, alL, ln1, ln2, ln3, h1, hi, h4, ha, h2, req_pl h3 (by decide : 1 ≤ 4 ∧ 4 ≤ 4), hm, ih']
    by_cases e : s.2.1 = 4
    · obtain ⟨t, ht⟩ := hs s (by rw [hS]; simp) e
      simp only [e, fit1, fit0, fitb, b2i_t, b2i_f, reduceIte, decide_true, decide_false, ht, refO, x66_0, x66_1, x66_4, x66_5, x66_6, x66_7, x66_8, x66_9, x66_11, x66_12, x66_15, x66_16, x66_17, x66_18, x66_20, x66_22, x66_25, x66_28, x66_31, x66_32, x66_34, x66_37, x66_40, x66_42, x66_45, x66_46, x66_47, x66_50, x66_53, x66_54, gk_some, pk_some, qk_some, bnd_v, bnd_n, kl_int, kl_ref, kl_null, kl_un, Nat.reduceAdd, if_true, if_false, hq, ih']
    · simp only [e, fit1, fit0, fitb, b2i_t, b2i_f, reduceIte, decide_true, decide_false, Bool.false_eq_true]
theorem m66 (w : WS S) (hp : 32 ≤ p) (hs : ∀ s, s ∈ S → s.2.1 = 4 → ∃ t, S.find? (holP (s.2.2 7)) = some (s.1, t)) : rcal 66 [.ref p] (put h p f tk rt ps S, r) = some (.inl (some (.int 1)), (put h p f tk rt ps S, r)) := by
  have e := l66 h f tk rt ps S r (p := p) w hp hs S [] 0 un rfl rfl
  simp only [c66, x66_0, x66_1, x66_4, x66_5, x66_6, x66_7, x66_8, x66_9, x66_11, x66_12, x66_15, x66_16, x66_17, x66_18, x66_20, x66_22, x66_25, x66_28, x66_31, x66_32, x66_34, x66_37, x66_40, x66_42, x66_45, x66_46, x66_47, x66_50, x66_53, x66_54, gk_some, pk_some, qk_some, bnd_v, bnd_n, kl_int, kl_ref, kl_null, kl_un, Nat.reduceAdd, if_true, if_false, gl0, gl1, gl2, gl3, gl4, gl5, gl6, gl7, gl8, gl9, gl10, gl11, gl12, rvL, rvT, alL, ln1, ln2, ln3, w.1, e]
theorem l67b {n : Nat} (hn : f 0 = I n) (h7 : n ≤ 7) (hf : ∀ a b, a < n → b < n → betw rt a b = psD ps a b) (x : Nat) (hx : x < n) : ∀ (c a : Nat), a + c = n → rn 67 12 [.ref p, .int (I x), .int (I a)] [] (put h p f tk rt ps S, r) = rn 67 2 [.ref p, .int (I x + 1), .int (I n)] [] (put h p f tk rt ps S, r) := by
  intro c
  induction c with
  | zero =>
    intro a ha
    have hlt : ¬ I a < I n := by rw [I_lt (by omega) (by omega)]; omega
    have : a = n := by omega
    subst this
    rw [x67_12]
    simp only [x67_0, x67_1, x67_3, x67_4, x67_7, x67_10, x67_11, x67_13, x67_14, x67_17, x67_20, x67_21, x67_22, x67_23, x67_26, x67_27, x67_28, x67_29, x67_32, x67_35, x67_36, x67_37, x67_40, x67_43, x67_46, x67_49, x67_50, gk_some, pk_some, qk_some, bnd_v, bnd_n, kl_int, kl_ref, kl_null, kl_un, Nat.reduceAdd, if_true, if_false, gl0, gl1, gl2, gl3, gl4, gl5, gl6, gl7, gl8, gl9, gl10, gl11, gl12, hn, hlt, fit1, fit0, fitb, b2i_t, b2i_f, reduceIte, decide_true, decide_false]
  | succ c ih =>
    intro a ha
    have hlt : I a < I n := by rw [I_lt (by omega) (by omega)]; omega
    have hm := m61 h f tk rt ps S r (p := p) hn h7 hx (show a < n by omega)
    have hm2 := m62 h f tk rt ps S r (p := p) hn h7 hx (show a < n by omega)
    have ih' := ih (a + 1) (by omega)
    rw [x67_12]
    simp only [x67_0, x67_1, x67_3, x67_4, x67_7, x67_10, x67_11, x67_13, x67_14, x67_17, x67_20, x67_21, x67_22, x67_23, x67_26, x67_27, x67_28, x67_29, x67_32, x67_35, x67_36, x67_37, x67_40, x67_43, x67_46, x67_49, x67_50, gk_some, pk_some, qk_some, bnd_v, bnd_n, kl_int, kl_ref, kl_null, kl_un, Nat.reduceAdd, if_true, if_false, gl0, gl1, gl2, gl3, gl4, gl5, gl6, gl7, gl8, gl9, gl10, gl11, gl12, rvL, rvT, alL, ln1, ln2, ln3, hn, hlt, hm, hm2, hf x a hx (by omega), I_1, ih']
theorem l67 {n : Nat} (hn : f 0 = I n) (h7 : n ≤ 7) (hf : ∀ a b, a < n → b < n → betw rt a b = psD ps a b) : ∀ (c a : Nat) (z : Value), a + c = n → rn 67 2 [.ref p, .int (I a), z] [] (put h p f tk rt ps S, r) = some (.inl (some (.int 1)), (put h p f tk rt ps S, r)) := by
  intro c
  induction c with
  | zero =>
    intro a z ha
    have hlt : ¬ I a < I n := by rw [I_lt (by omega) (by omega)]; omega
    rw [x67_2]
    simp only [x67_0, x67_1, x67_3, x67_4, x67_7, x67_10, x67_11, x67_13, x67_14, x67_17, x67_20, x67_21, x67_22, x67_23, x67_26, x67_27, x67_28, x67_29, x67_32, x67_35, x67_36, x67_37, x67_40, x67_43, x67_46, x67_49, x67_50, gk_some, pk_some, qk_some, bnd_v, bnd_n, kl_int, kl_ref, kl_null, kl_un, Nat.reduceAdd, if_true, if_false, gl0, gl1, gl2, gl3, gl4, gl5, gl6, gl7, gl8, gl9, gl10, gl11, gl12, hn, hlt, fit1, fit0, fitb, b2i_t, b2i_f, reduceIte, decide_true, decide_false]
  | succ c ih =>
    intro a z ha
    have hlt : I a < I n := by rw [I_lt (by omega) (by omega)]; omega
    have e : rn 67 12 [.ref p, .int (I a), .int 0] [] (put h p f tk rt ps S, r) = _ := l67b h f tk rt ps S r (p := p) hn h7 hf a (by omega) n 0 (by omega)
    have ih' := fun z => ih (a + 1) z (by omega)
    rw [x67_2]
    simp only [x67_0, x67_1, x67_3, x67_4, x67_7, x67_10, x67_11, x67_13, x67_14, x67_17, x67_20, x67_21, x67_22, x67_23, x67_26, x67_27, x67_28, x67_29, x67_32, x67_35, x67_36, x67_37, x67_40, x67_43, x67_46, x67_49, x67_50, gk_some, pk_some, qk_some, bnd_v, bnd_n, kl_int, kl_ref, kl_null, kl_un, Nat.reduceAdd, if_true, if_false, gl0, gl1, gl2, gl3, gl4, gl5, gl6, gl7, gl8, gl9, gl10, gl11, gl12, rvL, rvT, alL, ln1, ln2, ln3, hn, hlt, e, I_1, ih']
theorem m67 {n : Nat} (hn : f 0 = I n) (h7 : n ≤ 7) (hf : ∀ a b, a < n → b < n → betw rt a b = psD ps a b) : rcal 67 [.ref p] (put h p f tk rt ps S, r) = some (.inl (some (.int 1)), (put h p f tk rt ps S, r)) := by
  have e : rn 67 2 [.ref p, .int 0, un] [] (put h p f tk rt ps S, r) = _ := l67 h f tk rt ps S r (p := p) hn h7 hf n 0 un (by omega)
  simp only [c67, x67_0, x67_1, x67_3, x67_4, x67_7, x67_10, x67_11, x67_13, x67_14, x67_17, x67_20, x67_21, x67_22, x67_23, x67_26, x67_27, x67_28, x67_29, x67_32, x67_35, x67_36, x67_37, x67_40, x67_43, x67_46, x67_49, x67_50, gk_some, pk_some, qk_some, bnd_v, bnd_n, kl_int, kl_ref, kl_null, kl_un, Nat.reduceAdd, if_true, if_false, e]
end CONS
