/-! each command on both sides -/
theorem FL_do {X N : Int} {L : LN} (h : FL X N L) (h0 : 0 ≤ X) (hX : X + 60 ≤ 31000) (hN : N + 1 ≤ 512) (c : Nat) (x y z : Int32) : FL (X + 60) (N + 1) (doC c x y z L).2 := by
  have up1 : ∀ L', FL X N L' → FL (X + 60) (N + 1) L' := fun L' q => FL_mono q (by omega) (by omega) (by omega)
  match c with
  | 0 => exact up1 _ (FL_st h x y)
  | 1 => exact up1 _ (FL_tr h x y)
  | 2 => exact FL_mono (FL_tn h h0 (by omega) hN x y z) (by omega) (by omega) (Int.le_refl _)
  | 3 => exact up1 _ (FL_ho h 1 x rfl)
  | 4 => exact up1 _ (FL_ho h 0 x rfl)
  | 5 => exact up1 _ (FL_ca h x)
  | n + 6 => exact FL_mono (FL_wt h h0 (by omega) x) (Int.le_refl _) (by omega) (by omega)
theorem FL_cm {X N : Int} {L : LN} (h : FL X N L) (hX : X + 60 ≤ 31000) (c : Nat) (x : Int32) : cmK c x L := by
  obtain ⟨n, G, nf, wb, pk, hn⟩ := h
  refine ⟨G.1, ⟨n, G.2.1⟩, ⟨_, G.2.2.1, GI_len G⟩, fun _ h1 h2 => ?_⟩
  rw [Z_lt, Z_1] at h1; rw [Z_lt, show Z 60 = 60 from rfl] at h2
  have hv := Z_nat (x := x) (by omega)
  exact (minN_GI x.toNatClampNeg X (L.1, L.2.2.2.2) (by omega) G).2.1
theorem hldN_nn (S : List SL) (h : S.length ≤ 6) : ¬ hldN S < 0 := by
  have : ∀ (l : List SL) (n : Nat), n + l.length ≤ 100 → ∃ m, m ≤ 100 ∧ l.foldl (fun n s => if hldP s = true then n + 1 else n) (I n) = I m := by
    intro l
    induction l with
    | nil => intro n hn; exact ⟨n, by simpa using hn, rfl⟩
    | cons s l ih =>
      intro n hn
      rw [List.foldl_cons]
      simp only [List.length_cons] at hn
      split
      · rw [I_1]; exact ih (n + 1) (by omega)
      · exact ih n (by omega)
  obtain ⟨m, h1, h2⟩ := this S 0 (by omega)
  unfold hldN
  rw [show (0 : Int32) = I 0 from rfl, h2]
  exact I_nn (by omega)
section BOTH
variable (h : PH) {p : Nat} (g : Nat → Int32) (A : Nat → Nat → Int32) (r : Nat × Nat × Nat) (a c : Nat → Int32) (m : Nat)
/-- the reference carries out the command k -/
noncomputable def rM (k : Nat) (p : Nat) (x y z : Int32) (H : HS) : Option Rs := match k with
  | 0 => rcal 167 [.ref p, .int x, .int y] H
  | 1 => rcal 169 [.ref p, .int x, .int y] H
  | 2 => rcal 171 [.ref p, .int x, .int y, .int z] H
  | 3 => rcal 174 [.ref p, .int x, .int 1] H
  | 4 => rcal 174 [.ref p, .int x, .int 0] H
  | 5 => rcal 177 [.ref p, .int x] H
  | _ => rcal 187 [.ref p, .int x] H
theorem y_all (hp : 32 ≤ p) {X N : Int} {L : LN} (hL : FL X N L) (h0 : 0 ≤ X) (hX : X + 60 ≤ 31000) (hN : N + 1 ≤ 512) (hM : MRL a L) (k : Nat) (hk : k < 7) (x y z : Int32) :
    ∃ g' a' c' m' v, rM k p x y z (mm h p g A a c m, r) = some (.inl (some (.int v)), (mm h p g' A a' c' m', r)) ∧ outM k (doC k x y z L) L g g' v a a' := by
  obtain ⟨n, G, nf, wb, pk, hn⟩ := hL
  obtain ⟨f, tk, rt, ps, S⟩ := L
  replace G : GI n X ((n - 1 : Nat) : Int) tk rt (f, S) := G
  have w := G.1
  have g2 := G.2.1
  have g3 := G.2.2.1
  have g4 := G.2.2.2.1
  have hz6 : Z (f 6) ≤ N := hn.1
  have t1 := G.2.2.2.2.2.2.2.2.2
  simp only [] at w g2 g3 g4
  have ka := (GI_brK G).2.2.1
  have hM' : MR a f tk rt (prs S) := hM
  have hh : ∀ x v, fitp 1 (.int x) = true → ∃ g' a' y, rcal 174 [.ref p, .int v, .int x] (mm h p g A a c m, r) = some (.inl (some (.int y)), (mm h p g' A a' c m, r)) ∧ outM 3 (dHo x v (f, tk, rt, ps, S)) (f, tk, rt, ps, S) g g' y a a' := by
    intro x v hx
    have hnn : ∀ s, S.find? (fndP v) = some s → ¬ s.2.2 9 = x → ¬ hldN (upS S s.1 (s.2.1, up s.2.2 9 x)) < 0 := fun s _ _ => hldN_nn _ (by rw [upS_len, w.1]; decide)
    refine y174 h g A r a c m f tk rt ps S hp w hM' 3 (Or.inl rfl) v x hx ?_ hnn
    unfold dHo
    cases e : S.find? (fndP v) with
    | none => simp only [e]; exact Or.inr (Or.inl trivial)
    | some s =>
      simp only [e]
      split
      · exact Or.inr (Or.inr rfl)
      · next c => exact Or.inl (hnn s e c)
  rcases (by omega : k = 0 ∨ k = 1 ∨ k = 2 ∨ k = 3 ∨ k = 4 ∨ k = 5 ∨ k = 6) with rfl | rfl | rfl | rfl | rfl | rfl | rfl
  · obtain ⟨g', a', v, e1, e2⟩ := y167 h g A r a c m f tk rt ps S hp hM' g2.1 g2.2 x y
    exact ⟨g', a', c, m, v, e1, e2⟩
  · obtain ⟨g', a', v, e1, e2⟩ := y169 h g A r a c m f tk rt ps S hp hM' ka g2.1 g2.2 (fun k hk => by have := g4.2 k hk; rw [Z_lt, Z_0]; omega) x y
    exact ⟨g', a', c, m, v, e1, e2⟩
  · have h6 : ¬ f 6 + 1 < 0 := by
      obtain ⟨b1, b2, b3, _⟩ := t1
      simp only [] at b1 b2 b3
      rw [Z_lt, Z_add (by rw [Z_1]; omega) (by rw [Z_1]; omega), Z_1, Z_0]; omega
    obtain ⟨g', a', v, e1, e2⟩ := y171 h g A r a c m f tk rt ps S hp w nf hM' g2.1 g2.2 g3 h6 x y z
    exact ⟨g', a', c, m, v, e1, e2⟩
  · obtain ⟨g', a', v, e1, e2⟩ := hh 1 x rfl
    exact ⟨g', a', c, m, v, e1, e2⟩
  · obtain ⟨g', a', v, e1, e2⟩ := hh 0 x rfl
    exact ⟨g', a', c, m, v, e1, e2⟩
  · obtain ⟨g', a', v, e1, e2⟩ := y177 h g A r a c m f tk rt ps S hp w hM' g3 x
    exact ⟨g', a', c, m, v, e1, e2⟩
  · by_cases c0 : x < 1 ∨ 60 < x
    · have d0 : ¬ (¬ x < 1 ∧ ¬ 60 < x) := fun q => c0.elim q.1 q.2
      have ed : doC 6 x y z (f, tk, rt, ps, S) = (-2, (f, tk, rt, ps, S)) := by
        show dWt x (f, tk, rt, ps, S) = _
        unfold dWt; rw [if_pos c0]
      rw [ed]
      refine ⟨up g 9 1, a, c, m, -1, ?_, Or.inl ?_⟩
      · show rcal 187 [.ref p, .int x] (mm h p g A a c m, r) = _
        simp only [c187, x187_0, x187_1, x187_2, x187_3, x187_6, x187_9, x187_12, x187_13, x187_14, x187_17, x187_18, x187_19, x187_22, x187_23, x187_24, x187_25, x187_26, x187_27, x187_28, x187_29, x187_32, x187_33, x187_36, x187_39, x187_42, x187_43, x187_46, x187_47, x187_48, x187_49, x187_50, gk_some, pk_some, qk_some, bnd_v, bnd_n, kl_int, kl_ref, kl_null, kl_un, Nat.reduceAdd, if_true, if_false, m151_60, d0, decide_false, fit1, fit0, fitb, b2i_t, b2i_f, reduceIte, decide_true, decide_false, Bool.false_eq_true, mm_0, mm_12, mm_13, mm_rv, mm_l0, mm_l1, mm_l3, mm_l4, mm_l5, mm_l6, mm_l7, mm_l8, n150 h g A r a c m hp]
      · exact ⟨ng2, rfl, rfl, rfl, rfl⟩
    · have h1 : ¬ x < 1 := fun q => c0 (Or.inl q)
      have h2 : ¬ 60 < x := fun q => c0 (Or.inr q)
      rw [Z_lt, Z_1] at h1; rw [Z_lt, show Z 60 = 60 from rfl] at h2
      have hv := Z_nat (x := x) (by omega)
      have hx := Z_of (x := x) (by omega)
      obtain ⟨G1, _, k1⟩ := minN_GI x.toNatClampNeg X (f, S) (by omega) G
      have e68 := (minN_68 x.toNatClampNeg X (f, S) (by omega) G).2
      obtain ⟨a1, c1, m1, e1, M1⟩ := n187 h g A r tk rt hp (mx := x.toNatClampNeg) (by omega) (by omega) (f, S) a c m hM' k1
      rw [← hx] at e1
      refine ⟨g, a1, c1, m1, _, e1, Or.inr ⟨?_, rfl, ?_, ?_⟩⟩
      · show ¬ (dWt x (f, tk, rt, ps, S)).1 < 0
        unfold dWt; rw [if_neg c0]
        show ¬ ((minN tk rt x.toNatClampNeg (f, S)).1 8 - f 8) < 0
        have q1 := G1.2.2.2.2.2.2.2.2.2
        obtain ⟨b1, b2, b3, _⟩ := q1
        obtain ⟨d1, d2, d3, _⟩ := t1
        simp only [] at d1 d2 d3 e68
        rw [Z_lt, Z_0, Z_sub (by omega) (by omega)]; omega
      · show _ = (dWt x (f, tk, rt, ps, S)).1
        unfold dWt; rw [if_neg c0]
      · show MRL a1 (dWt x (f, tk, rt, ps, S)).2
        unfold dWt; rw [if_neg c0]; exact M1
end BOTH
