/-! a changing call of the class -/
/-- a refusal, or an answer from 0 -/
theorem doC_cases {X N : Int} {L : LN} (hL : FL X N L) (hX : X + 60 ≤ 31000) (k : Nat) (x y z : Int32) : (∃ e, (e = -1 ∨ e = -2 ∨ e = -3 ∨ e = -4) ∧ doC k x y z L = (e, L)) ∨ ¬ (doC k x y z L).1 < 0 := by
  obtain ⟨n, G, nf, wb, pk, hn⟩ := hL
  obtain ⟨f, tk, rt, ps, S⟩ := L
  replace G : GI n X ((n - 1 : Nat) : Int) tk rt (f, S) := G
  have hl6 := GI_len G
  have G0 := G
  obtain ⟨w, g2, g3, g4, g5, g6, g7, g8, g9, g10⟩ := G
  simp only [] at w g2 g3 g10 hl6
  have ho : ∀ v x, (∃ e, (e = -1 ∨ e = -2 ∨ e = -3 ∨ e = -4) ∧ dHo x v (f, tk, rt, ps, S) = (e, (f, tk, rt, ps, S))) ∨ ¬ (dHo x v (f, tk, rt, ps, S)).1 < 0 := by
    intro v x
    unfold dHo
    cases e : S.find? (fndP v) with
    | none => simp only [e]; exact Or.inl ⟨-4, by simp, rfl⟩
    | some s =>
      simp only [e]
      split
      · exact Or.inl ⟨-3, by simp, rfl⟩
      · exact Or.inr (hldN_nn _ (by rw [upS_len, w.1]; decide))
  match k with
  | 0 =>
    show (∃ e, _ ∧ dSt x y (f, tk, rt, ps, S) = _) ∨ ¬ (dSt x y (f, tk, rt, ps, S)).1 < 0
    unfold dSt
    split
    · exact Or.inl ⟨-2, by simp, rfl⟩
    · split
      · exact Or.inl ⟨-3, by simp, rfl⟩
      · refine Or.inr ?_
        show ¬ f 0 < 0
        rw [g2.1]; exact I_nn (by omega)
  | 1 =>
    show (∃ e, _ ∧ dTr x y (f, tk, rt, ps, S) = _) ∨ ¬ (dTr x y (f, tk, rt, ps, S)).1 < 0
    unfold dTr
    split
    · exact Or.inl ⟨-1, by simp, rfl⟩
    · next c0 =>
      split
      · exact Or.inl ⟨-2, by simp, rfl⟩
      · split
        · exact Or.inl ⟨-3, by simp, rfl⟩
        · refine Or.inr ?_
          show ¬ tk x.toNatClampNeg < 0
          have v0 : ¬ x < 0 := fun q => c0 (Or.inl q)
          have vn : x < I n := by rw [← g2.1]; exact Classical.not_not.mp fun q => c0 (Or.inr q)
          have hvn := nat_lt2 v0 vn g2.2
          have := g4.2 x.toNatClampNeg (by omega)
          rw [Z_lt, Z_0]; omega
  | 2 =>
    show (∃ e, _ ∧ dTn x y z (f, tk, rt, ps, S) = _) ∨ ¬ (dTn x y z (f, tk, rt, ps, S)).1 < 0
    unfold dTn
    split
    · exact Or.inl ⟨-1, by simp, rfl⟩
    · split
      · exact Or.inl ⟨-2, by simp, rfl⟩
      · split
        · exact Or.inl ⟨-3, by simp, rfl⟩
        · refine Or.inr ?_
          show ¬ f 6 + 1 < 0
          obtain ⟨b1, b2, b3, _⟩ := g10
          rw [Z_lt, Z_add (by rw [Z_1]; omega) (by rw [Z_1]; omega), Z_1, Z_0]; omega
  | 3 => exact ho x 1
  | 4 => exact ho x 0
  | 5 =>
    show (∃ e, _ ∧ dCa x (f, tk, rt, ps, S) = _) ∨ ¬ (dCa x (f, tk, rt, ps, S)).1 < 0
    unfold dCa
    cases e : S.find? (fndP x) with
    | none => simp only [e]; exact Or.inl ⟨-4, by simp, rfl⟩
    | some s =>
      simp only [e]
      split
      · exact Or.inl ⟨-3, by simp, rfl⟩
      · refine Or.inr ?_
        show ¬ f 5 - 1 < 0
        obtain ⟨k1, k2, k3, k4⟩ := find_has w.2.1 e
        have hs : s ∈ prs S := by unfold prs; rw [List.mem_filter]; exact ⟨k3, by simp [fnd_pr x s k4]⟩
        have hpos : 1 ≤ (prs S).length := by
          cases hp : prs S with
          | nil => rw [hp] at hs; cases hs
          | cons _ _ => simp
        rw [g3, I_sub1 hpos]; exact I_nn (by omega)
  | q + 6 =>
    show (∃ e, _ ∧ dWt x (f, tk, rt, ps, S) = _) ∨ ¬ (dWt x (f, tk, rt, ps, S)).1 < 0
    unfold dWt
    split
    · exact Or.inl ⟨-2, by simp, rfl⟩
    · next c0 =>
      refine Or.inr ?_
      show ¬ (minN tk rt x.toNatClampNeg (f, S)).1 8 - f 8 < 0
      have h1 : ¬ x < 1 := fun q => c0 (Or.inl q)
      have h2 : ¬ 60 < x := fun q => c0 (Or.inr q)
      rw [Z_lt, Z_1] at h1; rw [Z_lt, show Z 60 = 60 from rfl] at h2
      have hv := Z_nat (x := x) (by omega)
      obtain ⟨G1, _, _⟩ := minN_GI x.toNatClampNeg X (f, S) (by omega) G0
      have e68 := (minN_68 x.toNatClampNeg X (f, S) (by omega) G0).2
      obtain ⟨b1, b2, b3, _⟩ := G1.2.2.2.2.2.2.2.2.2
      obtain ⟨d1, d2, d3, _⟩ := g10
      simp only [] at e68
      rw [Z_lt, Z_0, Z_sub (by omega) (by omega)]; omega
/-- the exception of a refusal -/
def excR (v : Int32) : Nat := if v = -1 then 0 else if v = -2 then 1 else if v = -3 then 2 else 3
section CHG
variable {h : PH} {L Sv Fc : LN} {Hs : Nat → LN} {nx ct : Nat} {sv er fa : Int32} (r : Nat × Nat × Nat)
theorem m99n {v : Int32} (hv : v = -1 ∨ v = -2 ∨ v = -3 ∨ v = -4) (H : HS) : rcal 99 [.int v] H = some (.inr (excR v), hsx H) := by
  rcases hv with rfl | rfl | rfl | rfl
  · simp only [c99, x99_0, x99_1, x99_2, x99_5, x99_15, x99_16, x99_18, x99_21, x99_31, x99_32, x99_34, x99_37, x99_47, x99_48, x99_50, x99_53, x99_63, gk_some, pk_some, qk_some, bnd_v, bnd_n, kl_int, kl_ref, kl_null, kl_un, Nat.reduceAdd, if_true, if_false, show ¬ (-1 : Int32) = -2 by decide, excR]
  · simp only [c99, x99_0, x99_1, x99_2, x99_5, x99_15, x99_16, x99_18, x99_21, x99_31, x99_32, x99_34, x99_37, x99_47, x99_48, x99_50, x99_53, x99_63, gk_some, pk_some, qk_some, bnd_v, bnd_n, kl_int, kl_ref, kl_null, kl_un, Nat.reduceAdd, if_true, if_false, show ¬ (-2 : Int32) = -1 by decide, excR]
  · simp only [c99, x99_0, x99_1, x99_2, x99_5, x99_15, x99_16, x99_18, x99_21, x99_31, x99_32, x99_34, x99_37, x99_47, x99_48, x99_50, x99_53, x99_63, gk_some, pk_some, qk_some, bnd_v, bnd_n, kl_int, kl_ref, kl_null, kl_un, Nat.reduceAdd, if_true, if_false, show ¬ (-3 : Int32) = -1 by decide, show ¬ (-3 : Int32) = -2 by decide, excR]
  · simp only [c99, x99_0, x99_1, x99_2, x99_5, x99_15, x99_16, x99_18, x99_21, x99_31, x99_32, x99_34, x99_37, x99_47, x99_48, x99_50, x99_53, x99_63, gk_some, pk_some, qk_some, bnd_v, bnd_n, kl_int, kl_ref, kl_null, kl_un, Nat.reduceAdd, if_true, if_false, show ¬ (-4 : Int32) = -1 by decide, show ¬ (-4 : Int32) = -2 by decide, show ¬ (-4 : Int32) = -3 by decide, excR]
theorem m99 {v : Int32} (hv : ¬ v < 0) (H : HS) : rcal 99 [.int v] H = some (.inl none, H) := by
  have e1 : ¬ v = -1 := fun e => hv (e ▸ ng1)
  have e2 : ¬ v = -2 := fun e => hv (e ▸ ng2)
  have e3 : ¬ v = -3 := fun e => hv (e ▸ ng3)
  have e4 : ¬ v = -4 := fun e => hv (e ▸ ng4)
  simp only [c99, x99_0, x99_1, x99_2, x99_5, x99_15, x99_16, x99_18, x99_21, x99_31, x99_32, x99_34, x99_37, x99_47, x99_48, x99_50, x99_53, x99_63, gk_some, pk_some, qk_some, bnd_v, bnd_n, kl_int, kl_ref, kl_null, kl_un, Nat.reduceAdd, if_true, if_false, e1, e2, e3, e4]
theorem m98_no (k : AK h L Sv Fc Hs nx ct sv er fa) {c : Nat} (hc : c < 7) {x y z : Int32} (kc : cmK c x L) {e : Int32} (he : e = -1 ∨ e = -2 ∨ e = -3 ∨ e = -4) (hd : doC c x y z L = (e, L)) : rcal 98 [.ref 32, .ref (5 + c), .int x, .int y, .int z] (h, r) = some (.inr (excR e), hsx (putL h (hQ nx) (cpL (Hs nx) L), r)) := by
  have k0 := k
  obtain ⟨z0, l33, l44, l55, z66, z67, lh, ck, n9, c8⟩ := k0
  have k1 := AK_hist (k := k) n9 (L' := cpL (Hs nx) L) (WS_cp (lh nx n9).2 l33.2)
  have h36 := m36 (putL h (hQ nx) (cpL (Hs nx) L)) r (p := 33) k1.2.2.2.2.2.2.2.1 (by decide) L c hc x y z kc
  rw [hd, show putL (putL h (hQ nx) (cpL (Hs nx) L)) 33 L = putL h (hQ nx) (cpL (Hs nx) L) from k1.2.1.1] at h36
  have h30 := m30 r k
  have g0 := gf_of z0 r 0
  have g3 := gf_of z0 r 3
  have g0' := gf_of k1.1 r 0
  have rv66 := rv_of z66 r
  have rvl := rvL_of (h := putL h (hQ nx) (cpL (Hs nx) L)) r k1.2.1.1
  simp only [c98, x98_0, x98_1, x98_4, x98_5, x98_8, x98_11, x98_12, x98_15, x98_16, x98_17, x98_18, x98_20, x98_23, x98_25, x98_27, x98_30, x98_31, x98_34, x98_37, x98_39, gk_some, pk_some, qk_some, bnd_v, bnd_n, kl_int, kl_ref, kl_null, kl_un, Nat.reduceAdd, if_true, if_false, g0, g3, List.getElem?_cons_zero, List.getElem?_cons_succ, rv66, h30, g0', rvl, h36, m99n he, bnd_x 98 _ _ _ _ _ rfl]
theorem m98_ok (k : AK h L Sv Fc Hs nx ct sv er fa) {c : Nat} (hc : c < 7) {x y z : Int32} (kc : cmK c x L) (hd : ¬ (doC c x y z L).1 < 0) (w' : WS (doC c x y z L).2.2.2.2.2) : rcal 98 [.ref 32, .ref (5 + c), .int x, .int y, .int z] (h, r) = some (.inl (some (.int (doC c x y z L).1)), (pu (putL (putL h (hQ nx) (cpL (Hs nx) L)) 33 (doC c x y z L).2) 66 (hO ((nx + 1) % 9) (min (ct + 1) 8)), r)) := by
  have k0 := k
  obtain ⟨z0, l33, l44, l55, z66, z67, lh, ck, n9, c8⟩ := k0
  have k1 := AK_hist (k := k) n9 (L' := cpL (Hs nx) L) (WS_cp (lh nx n9).2 l33.2)
  have h36 := m36 (putL h (hQ nx) (cpL (Hs nx) L)) r (p := 33) k1.2.2.2.2.2.2.2.1 (by decide) L c hc x y z kc
  rw [show putL (putL h (hQ nx) (cpL (Hs nx) L)) 33 L = putL h (hQ nx) (cpL (Hs nx) L) from k1.2.1.1] at h36
  have k2 := AK_line (k := k1) w'
  have h30 := m30 r k
  have g0 := gf_of z0 r 0
  have g3 := gf_of z0 r 3
  have g0' := gf_of k1.1 r 0
  have g3' := gf_of k2.1 r 3
  have rv66 := rv_of z66 r
  have rv66' := rv_of k2.2.2.2.2.1 r
  have rvl := rvL_of (h := putL h (hQ nx) (cpL (Hs nx) L)) r k1.2.1.1
  have h32 := m32 r k2.2.2.2.2.1 n9 c8
  simp only [c98, x98_0, x98_1, x98_4, x98_5, x98_8, x98_11, x98_12, x98_15, x98_16, x98_17, x98_18, x98_20, x98_23, x98_25, x98_27, x98_30, x98_31, x98_34, x98_37, x98_39, gk_some, pk_some, qk_some, bnd_v, bnd_n, kl_int, kl_ref, kl_null, kl_un, Nat.reduceAdd, if_true, if_false, g0, g3, List.getElem?_cons_zero, List.getElem?_cons_succ, rv66, h30, g0', rvl, h36, m99 hd, g3', rv66', h32]
end CHG
