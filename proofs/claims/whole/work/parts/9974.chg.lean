/-! the law's calls that change the line, both sides -/
/-- what a command may be refused for -/
def rsS (c : Nat) (e : Int32) : Prop := match c with
  | 0 => e = -2 ∨ e = -3
  | 1 => e = -1 ∨ e = -2 ∨ e = -3
  | 2 => e = -1 ∨ e = -2 ∨ e = -3
  | 3 => e = -4 ∨ e = -3
  | 4 => e = -4 ∨ e = -3
  | 5 => e = -4 ∨ e = -3
  | _ => e = -2
theorem doC_rs {X N : Int} {L : LN} (hL : FL X N L) (hX : X + 60 ≤ 31000) (k : Nat) (x y z : Int32) : (∃ e, rsS k e ∧ doC k x y z L = (e, L)) ∨ ¬ (doC k x y z L).1 < 0 := by
  obtain ⟨n, G, nf, wb, pk, hn⟩ := hL
  obtain ⟨f, tk, rt, ps, S⟩ := L
  replace G : GI n X ((n - 1 : Nat) : Int) tk rt (f, S) := G
  have hl6 := GI_len G
  have G0 := G
  obtain ⟨w, g2, g3, g4, g5, g6, g7, g8, g9, g10⟩ := G
  simp only [] at w g2 g3 g10 hl6
  have ho : ∀ v x, (∃ e, (e = -4 ∨ e = -3) ∧ dHo x v (f, tk, rt, ps, S) = (e, (f, tk, rt, ps, S))) ∨ ¬ (dHo x v (f, tk, rt, ps, S)).1 < 0 := by
    intro v x
    unfold dHo
    cases e : S.find? (fndP v) with
    | none => simp only [e]; exact Or.inl ⟨-4, by simp, rfl⟩
    | some s =>
      simp only [e]
      split
      · exact Or.inl ⟨-3, by simp, rfl⟩
      · exact Or.inr (hldN_nn _ (by rw [upS_len, w.1]; decide))
  match k with
  | 0 =>
    show (∃ e, _ ∧ dSt x y (f, tk, rt, ps, S) = _) ∨ ¬ (dSt x y (f, tk, rt, ps, S)).1 < 0
    unfold dSt
    split
    · exact Or.inl ⟨-2, by simp [rsS], rfl⟩
    · split
      · exact Or.inl ⟨-3, by simp [rsS], rfl⟩
      · refine Or.inr ?_
        show ¬ f 0 < 0
        rw [g2.1]; exact I_nn (by omega)
  | 1 =>
    show (∃ e, _ ∧ dTr x y (f, tk, rt, ps, S) = _) ∨ ¬ (dTr x y (f, tk, rt, ps, S)).1 < 0
    unfold dTr
    split
    · exact Or.inl ⟨-1, by simp [rsS], rfl⟩
    · next c0 =>
      split
      · exact Or.inl ⟨-2, by simp [rsS], rfl⟩
      · split
        · exact Or.inl ⟨-3, by simp [rsS], rfl⟩
        · refine Or.inr ?_
          show ¬ tk x.toNatClampNeg < 0
          have v0 : ¬ x < 0 := fun q => c0 (Or.inl q)
          have vn : x < I n := by rw [← g2.1]; exact Classical.not_not.mp fun q => c0 (Or.inr q)
          have hvn := nat_lt2 v0 vn g2.2
          have := g4.2 x.toNatClampNeg (by omega)
          rw [Z_lt, Z_0]; omega
  | 2 =>
    show (∃ e, _ ∧ dTn x y z (f, tk, rt, ps, S) = _) ∨ ¬ (dTn x y z (f, tk, rt, ps, S)).1 < 0
    unfold dTn
    split
    · exact Or.inl ⟨-1, by simp [rsS], rfl⟩
    · split
      · exact Or.inl ⟨-2, by simp [rsS], rfl⟩
      · split
        · exact Or.inl ⟨-3, by simp [rsS], rfl⟩
        · refine Or.inr ?_
          show ¬ f 6 + 1 < 0
          obtain ⟨b1, b2, b3, _⟩ := g10
          rw [Z_lt, Z_add (by rw [Z_1]; omega) (by rw [Z_1]; omega), Z_1, Z_0]; omega
  | 3 => exact ho x 1
  | 4 => exact ho x 0
  | 5 =>
    show (∃ e, _ ∧ dCa x (f, tk, rt, ps, S) = _) ∨ ¬ (dCa x (f, tk, rt, ps, S)).1 < 0
    unfold dCa
    cases e : S.find? (fndP x) with
    | none => simp only [e]; exact Or.inl ⟨-4, by simp [rsS], rfl⟩
    | some s =>
      simp only [e]
      split
      · exact Or.inl ⟨-3, by simp [rsS], rfl⟩
      · refine Or.inr ?_
        show ¬ f 5 - 1 < 0
        obtain ⟨k1, k2, k3, k4⟩ := find_has w.2.1 e
        have hs : s ∈ prs S := by unfold prs; rw [List.mem_filter]; exact ⟨k3, by simp [fnd_pr x s k4]⟩
        have hpos : 1 ≤ (prs S).length := by
          cases hp : prs S with
          | nil => rw [hp] at hs; cases hs
          | cons _ _ => simp
        rw [g3, I_sub1 hpos]; exact I_nn (by omega)
  | q + 6 =>
    show (∃ e, _ ∧ dWt x (f, tk, rt, ps, S) = _) ∨ ¬ (dWt x (f, tk, rt, ps, S)).1 < 0
    unfold dWt
    split
    · exact Or.inl ⟨-2, by simp [rsS], rfl⟩
    · next c0 =>
      refine Or.inr ?_
      show ¬ (minN tk rt x.toNatClampNeg (f, S)).1 8 - f 8 < 0
      have h1 : ¬ x < 1 := fun q => c0 (Or.inl q)
      have h2 : ¬ 60 < x := fun q => c0 (Or.inr q)
      rw [Z_lt, Z_1] at h1; rw [Z_lt, show Z 60 = 60 from rfl] at h2
      have hv := Z_nat (x := x) (by omega)
      obtain ⟨G1, _, _⟩ := minN_GI x.toNatClampNeg X (f, S) (by omega) G0
      have e68 := (minN_68 x.toNatClampNeg X (f, S) (by omega) G0).2
      obtain ⟨b1, b2, b3, _⟩ := G1.2.2.2.2.2.2.2.2.2
      obtain ⟨d1, d2, d3, _⟩ := g10
      simp only [] at e68
      rw [Z_lt, Z_0, Z_sub (by omega) (by omega)]; omega
theorem rs_e {c : Nat} {e : Int32} (h : rsS c e) : e = -1 ∨ e = -2 ∨ e = -3 ∨ e = -4 := by
  match c with
  | 0 => obtain h | h := h <;> simp [h]
  | 1 => obtain h | h | h := h <;> simp [h]
  | 2 => obtain h | h | h := h <;> simp [h]
  | 3 => obtain h | h := h <;> simp [h]
  | 4 => obtain h | h := h <;> simp [h]
  | 5 => obtain h | h := h <;> simp [h]
  | k + 6 => have h' : e = -2 := h; simp [h']
/-- the reference's method for a command -/
noncomputable def MC (c : Nat) (p : Nat) (x y z : Int32) (H : HS) : Option Rs := match c with
  | 0 => rcal 168 [.ref p, .int x, .int y] H
  | 1 => rcal 170 [.ref p, .int x, .int y] H
  | 2 => rcal 172 [.ref p, .int x, .int y, .int z] H
  | 3 => rcal 175 [.ref p, .int x] H
  | 4 => rcal 176 [.ref p, .int x] H
  | 5 => rcal 178 [.ref p, .int x] H
  | _ => rcal 188 [.ref p, .int x] H
section MC
variable (h : PH) {p : Nat} (g : Nat → Int32) (A : Nat → Nat → Int32) (r : Nat × Nat × Nat)
theorem MC_of (hp : 32 ≤ p) {c : Nat} (hc : c < 7) {x y z v : Int32} {H1 H2 : HS} (e : rM c p x y z (mput h p (up g 9 0) (ua A 2 (cpA 0 76 (A 1) (A 2))), r) = some (.inl (some (.int v)), H1)) (rv1 : recv H1 p 5 = true) (e2 : rcal 153 [.ref p, .int v] H1 = some (.inl (some (.int v)), H2)) : MC c p x y z (mput h p g A, r) = some (.inl (some (.int v)), H2) := by
  have t := m152 h g r hp A
  rcases (by omega : c = 0 ∨ c = 1 ∨ c = 2 ∨ c = 3 ∨ c = 4 ∨ c = 5 ∨ c = 6) with rfl | rfl | rfl | rfl | rfl | rfl | rfl
  · simp only [rM] at e
    simp only [MC, c168, x168_0, x168_1, x168_4, x168_5, x168_6, x168_7, x168_8, x168_11, x168_14, gk_some, pk_some, qk_some, bnd_v, bnd_n, kl_int, kl_ref, kl_null, kl_un, Nat.reduceAdd, if_true, if_false, rvM, t, e, rv1, e2]
  · simp only [rM] at e
    simp only [MC, c170, x170_0, x170_1, x170_4, x170_5, x170_6, x170_7, x170_8, x170_11, x170_14, gk_some, pk_some, qk_some, bnd_v, bnd_n, kl_int, kl_ref, kl_null, kl_un, Nat.reduceAdd, if_true, if_false, rvM, t, e, rv1, e2]
  · simp only [rM] at e
    simp only [MC, c172, x172_0, x172_1, x172_4, x172_5, x172_6, x172_7, x172_8, x172_9, x172_12, x172_15, gk_some, pk_some, qk_some, bnd_v, bnd_n, kl_int, kl_ref, kl_null, kl_un, Nat.reduceAdd, if_true, if_false, rvM, t, e, rv1, e2]
  · simp only [rM] at e
    simp only [MC, c175, x175_0, x175_1, x175_4, x175_5, x175_6, x175_7, x175_8, x175_11, x175_14, gk_some, pk_some, qk_some, bnd_v, bnd_n, kl_int, kl_ref, kl_null, kl_un, Nat.reduceAdd, if_true, if_false, rvM, t, e, rv1, e2]
  · simp only [rM] at e
    simp only [MC, c176, x176_0, x176_1, x176_4, x176_5, x176_6, x176_7, x176_8, x176_11, x176_14, gk_some, pk_some, qk_some, bnd_v, bnd_n, kl_int, kl_ref, kl_null, kl_un, Nat.reduceAdd, if_true, if_false, rvM, t, e, rv1, e2]
  · simp only [rM] at e
    simp only [MC, c178, x178_0, x178_1, x178_4, x178_5, x178_6, x178_7, x178_10, x178_13, gk_some, pk_some, qk_some, bnd_v, bnd_n, kl_int, kl_ref, kl_null, kl_un, Nat.reduceAdd, if_true, if_false, rvM, t, e, rv1, e2]
  · simp only [rM] at e
    simp only [MC, c188, x188_0, x188_1, x188_4, x188_5, x188_6, x188_7, x188_10, x188_13, gk_some, pk_some, qk_some, bnd_v, bnd_n, kl_int, kl_ref, kl_null, kl_un, Nat.reduceAdd, if_true, if_false, rvM, t, e, rv1, e2]
/-- the reference carries out a changing call -/
theorem MC_all (hp : 32 ≤ p) {L : LN} {X N : Int} (hM : MRL (A 1) L) (hL : FL X N L) (h0 : 0 ≤ X) (hX : X + 60 ≤ 31000) (hN : N + 1 ≤ 512) {ct : Nat} (e6 : g 6 = I ct) (c8 : ct ≤ 8) {c : Nat} (hc : c < 7) (x y z : Int32) : ((doC c x y z L).1 < 0 ∧ ∃ g' A', MC c p x y z (mput h p g A, r) = some (.inl (some (.int (-1))), (mput h p g' A', r)) ∧ g' 9 = thr c (doC c x y z L).1 ∧ (∀ k, k ≠ 9 → k ≠ 13 → g' k = g k) ∧ (A' 1 = A 1) ∧ ∀ k, k ≠ 1 → k ≠ 2 → k ≠ 7 → A' k = A k) ∨
    (¬ (doC c x y z L).1 < 0 ∧ ∃ g' A', MC c p x y z (mput h p g A, r) = some (.inl (some (.int (doC c x y z L).1)), (mput h p g' A', r)) ∧ g' 9 = 0 ∧ g' 6 = I (min (ct + 1) 8) ∧ (∀ k, k ≠ 6 → k ≠ 9 → k ≠ 13 → g' k = g k) ∧ MRL (A' 1) (doC c x y z L).2 ∧ A' 5 = psh ct (cpA 0 76 (A 1) (A 2)) (A 5) ∧ ∀ k, k ≠ 1 → k ≠ 2 → k ≠ 5 → k ≠ 7 → A' k = A k) := by
  obtain ⟨m13, e13⟩ := I_ex (up g 9 0 13)
  have hid := mm_id h (p := p) (g := up g 9 0) (ua A 2 (cpA 0 76 (A 1) (A 2))) e13
  have a1 : ua A 2 (cpA 0 76 (A 1) (A 2)) 1 = A 1 := ua_ne _ _ (by decide)
  obtain ⟨g', a', c', m', v, y1, y2⟩ := y_all h (up g 9 0) (ua A 2 (cpA 0 76 (A 1) (A 2))) r (ua A 2 (cpA 0 76 (A 1) (A 2)) 1) (ua A 2 (cpA 0 76 (A 1) (A 2)) 7) m13 hp hL h0 hX hN (by rw [a1]; exact hM) c hc x y z
  rw [hid] at y1
  have rv : recv (mm h p g' (ua A 2 (cpA 0 76 (A 1) (A 2))) a' c' m', r) p 5 = true := by unfold mm; exact rvM ..
  obtain ⟨d1, d2, d3, d4, d5⟩ | ⟨d1, d3, d4, d5⟩ := y2
  · subst d4
    have g9 : (up g' 13 (I m')) 9 = thr c (doC c x y z L).1 := by rw [up_ne _ _ (by decide), d3, up_eq]
    have t := m153n h (up g' 13 (I m')) r hp (ua (ua (ua A 2 (cpA 0 76 (A 1) (A 2))) 1 a') 7 c') (-1) (by rw [g9]; exact thr_pos _ _)
    refine Or.inl ⟨d1, up g' 13 (I m'), ua (ua (ua A 2 (cpA 0 76 (A 1) (A 2))) 1 a') 7 c', MC_of h g A r hp hc y1 rv t, g9, fun k k9 k13 => ?_, ?_, fun k k1 k2 k7 => ?_⟩
    · rw [up_ne _ _ k13, d3, up_ne _ _ k9, up_ne _ _ k9]
    · rw [ua_ne _ _ (by decide), ua_eq, d5]; exact a1
    · rw [ua_ne _ _ k7, ua_ne _ _ k1, ua_ne _ _ k2]
  · subst d4
    have g9 : (up g' 13 (I m')) 9 = 0 := by rw [up_ne _ _ (by decide), d3, up_eq]
    have g6 : (up g' 13 (I m')) 6 = I ct := by rw [up_ne _ _ (by decide), d3, up_ne _ _ (by decide)]; exact e6
    have t := m153a h (up g' 13 (I m')) r hp (ua (ua (ua A 2 (cpA 0 76 (A 1) (A 2))) 1 a') 7 c') (doC c x y z L).1 g9 c8 g6
    have b2 : ua (ua (ua A 2 (cpA 0 76 (A 1) (A 2))) 1 a') 7 c' 2 = cpA 0 76 (A 1) (A 2) := by rw [ua_ne _ _ (by decide), ua_ne _ _ (by decide), ua_eq]
    have b5 : ua (ua (ua A 2 (cpA 0 76 (A 1) (A 2))) 1 a') 7 c' 5 = A 5 := by rw [ua_ne _ _ (by decide), ua_ne _ _ (by decide), ua_ne _ _ (by decide)]
    rw [b2, b5] at t
    refine Or.inr ⟨d1, up (up g' 13 (I m')) 6 (I (min (ct + 1) 8)), ua (ua (ua (ua A 2 (cpA 0 76 (A 1) (A 2))) 1 a') 7 c') 5 (psh ct (cpA 0 76 (A 1) (A 2)) (A 5)), MC_of h g A r hp hc y1 rv t, ?_, up_eq _ _ _, fun k k6 k9 k13 => ?_, ?_, ua_eq _ _ _, fun k k1 k2 k5 k7 => ?_⟩
    · rw [up_ne _ _ (by decide)]; exact g9
    · rw [up_ne _ _ k6, up_ne _ _ k13, d3, up_ne _ _ k9]
    · rw [ua_ne _ _ (by decide), ua_ne _ _ (by decide), ua_eq]; exact d5
    · rw [ua_ne _ _ k5, ua_ne _ _ k7, ua_ne _ _ k1, ua_ne _ _ k2]
end MC
/-- one more state is kept: both histories -/
theorem hist_push {Hs : Nat → LN} {nx ct : Nat} {L0 : LN} {src dst : Nat → Int32} {X N : Int} (n9 : nx < 9) (c8 : ct ≤ 8) (hs : MRL src L0) (hf : FL X N L0) (w : ∀ q, q < ct → MRL (fun y => dst (76 * q + y)) (Hs ((nx + 9 - ct + q) % 9)) ∧ FL X N (Hs ((nx + 9 - ct + q) % 9))) : ∀ q, q < min (ct + 1) 8 → MRL (fun y => psh ct src dst (76 * q + y)) ((fun i => if i = nx then L0 else Hs i) (((nx + 1) % 9 + 9 - min (ct + 1) 8 + q) % 9)) ∧ FL X N ((fun i => if i = nx then L0 else Hs i) (((nx + 1) % 9 + 9 - min (ct + 1) 8 + q) % 9)) := by
  intro q hq
  unfold psh
  by_cases c : ct < 8
  · rw [if_pos c, show min (ct + 1) 8 = ct + 1 by omega] at *
    by_cases e : q = ct
    · subst e
      have ei : ((nx + 1) % 9 + 9 - (q + 1) + q) % 9 = nx := by omega
      simp only [ei, if_true]
      refine ⟨MRL_ext hs (fun y hy => ?_), hf⟩
      unfold cpB
      rw [if_pos ⟨by omega, by omega⟩, show 76 * q + y - 76 * q = y by omega]
    · have ei : ((nx + 1) % 9 + 9 - (ct + 1) + q) % 9 = (nx + 9 - ct + q) % 9 := by omega
      have en : ¬ (nx + 9 - ct + q) % 9 = nx := by omega
      obtain ⟨w1, w2⟩ := w q (by omega)
      simp only [ei, if_neg en]
      refine ⟨MRL_ext w1 (fun y hy => ?_), w2⟩
      unfold cpB
      rw [if_neg (by omega)]
  · have e8 : ct = 8 := by omega
    subst e8
    rw [if_neg c, show min (8 + 1) 8 = 8 by decide] at *
    by_cases e : q = 7
    · subst e
      have ei : ((nx + 1) % 9 + 9 - 8 + 7) % 9 = nx := by omega
      simp only [ei, if_true]
      refine ⟨MRL_ext hs (fun y hy => ?_), hf⟩
      unfold cpB
      rw [if_pos ⟨by omega, by omega⟩, show 76 * 7 + y - 76 * 7 = y by omega]
    · have ei : ((nx + 1) % 9 + 9 - 8 + q) % 9 = (nx + 9 - 8 + (q + 1)) % 9 := by omega
      have en : ¬ (nx + 9 - 8 + (q + 1)) % 9 = nx := by omega
      obtain ⟨w1, w2⟩ := w (q + 1) (by omega)
      simp only [ei, if_neg en]
      refine ⟨MRL_ext w1 (fun y hy => ?_), w2⟩
      unfold cpB shA
      rw [if_neg (by omega), if_pos ⟨by omega, by omega⟩, show 76 * q + y + 76 = 76 * (q + 1) + y by omega]
section CORE
variable {xs : List Int32} {t : Nat} {h : PH} {r : Nat × Nat × Nat}
theorem CPr_of {h1 : PH} {c s : Nat} {L Sv : LN} {Hs : Nat → LN} {nx ct : Nat} {sv er fa : Int32} {T : Nat → Int32} {n m : Nat} {f : Nat → Int32} (C : CPr xs h r c s L Sv Hs nx ct sv er fa T n m f) {L' Sv' Fc' : LN} {Hs' : Nat → LN} {nx' ct' : Nat} {sv' er' fa' : Int32} (a : AK h1 L' Sv' Fc' Hs' nx' ct' sv' er' fa') (k : ∀ b, b = 0 ∨ 167 ≤ b → h1 b = h b) : CPr xs h1 r c s L' Sv' Hs' nx' ct' sv' er' fa' T n m f ∧ Kp h h1 := by
  obtain ⟨c0, -, ⟨j, kk, q, j7, qo, pa⟩, i, B, x, sb, i3, mc, er2, eq⟩ := C
  refine ⟨⟨by rw [k 0 (Or.inl rfl)]; exact c0, ⟨Fc', a⟩, ⟨j, kk, q, j7, qo, PAt_frame pa (fun b b1 b2 => k b (Or.inr (by omega)))⟩, i, B, x, SB_frame sb (fun b hb => k b (Or.inr ?_)), i3, mc, er2, eq⟩, fun b b1 b2 => k b (Or.inr (by omega))⟩
  have := bAd_in i
  omega
theorem chg (R : GR xs t (h, r)) (ht : t ≤ 511) {c : Nat} (hc : c < 7) (x y z : Int32) :
    (∃ e h1 g g' A A', rsS c e ∧ rcal 98 [.ref 32, .ref (5 + c), .int x, .int y, .int z] (h, r) = some (.inr (excR e), hsx (h1, r)) ∧ mput h1 172 g A = h1 ∧ MC c 172 x y z (mput h1 172 g A, (hsx (h1, r)).2) = some (.inl (some (.int (-1))), (mput h1 172 g' A', (hsx (h1, r)).2)) ∧ g' 9 = thr c e ∧ GR xs (t + 1) (mput h1 172 g' A', (hsx (h1, r)).2) ∧ h1 0 = h 0) ∨
    (∃ v h1 g g' A A' o, rcal 98 [.ref 32, .ref (5 + c), .int x, .int y, .int z] (h, r) = some (.inl (some (.int v)), (h1, r)) ∧ h1 184 = some (103, [.long o]) ∧ mput (pu h1 184 (103, [.long v.toInt64])) 172 g A = pu h1 184 (103, [.long v.toInt64]) ∧ MC c 172 x y z (mput (pu h1 184 (103, [.long v.toInt64])) 172 g A, r) = some (.inl (some (.int v)), (mput (pu h1 184 (103, [.long v.toInt64])) 172 g' A', r)) ∧ g' 9 = 0 ∧ ald (mput (pu h1 184 (103, [.long v.toInt64])) 172 g' A', r) 103 184 0 = some (.long v.toInt64) ∧ GR xs (t + 1) (mput (pu h1 184 (103, [.long v.toInt64])) 172 g' A', r) ∧ h1 0 = h 0) := by
  obtain ⟨cc, s, L, Sv, Hs, nx, ct, sv, er, fa, n, m, g, A, C, M0, O0, G, hn, hcc, hs⟩ := R
  obtain ⟨hM, hL, gn, gm, gk, e6, gs, gh⟩ := id G
  obtain ⟨Fc, ak⟩ := id C.2.1
  have n9 : nx < 9 := ak.2.2.2.2.2.2.2.2.1
  have c8 : ct ≤ 8 := ak.2.2.2.2.2.2.2.2.2
  have hX60 : 60 * ((t : Int) - n) + 60 ≤ 31000 := by omega
  have kc := FL_cm hL hX60 c x
  have hq := ak.2.2.2.2.2.2.1 nx n9
  have wc := WS_cp (D := Hs nx) (L := L) hq.2 ak.2.1.2
  have ah := AK_hist (k := ak) n9 (L' := cpL (Hs nx) L) wc
  have hmc := fun h' r' => MC_all h' (p := 172) g A r' (by decide) hM hL (by omega) hX60 (by omega) e6 c8 hc x y z
  have hX61 : (60 * ((t : Int) - n)) + 60 ≤ 60 * (((t + 1 : Nat) : Int) - n) := by push_cast; omega
  obtain ⟨e, he, hd⟩ | hd := doC_rs hL hX60 c x y z
  · have e98 := m98_no r ak hc kc (rs_e he) hd
    have hneg : e < 0 := by
      obtain z | z | z | z := rs_e he <;> rw [z] <;> decide
    have kb : ∀ b, b = 0 ∨ 167 ≤ b → putL h (hQ nx) (cpL (Hs nx) L) b = h b := fun b hb => putL_out h wc (by unfold hQ; omega)
    obtain ⟨C1, kp⟩ := CPr_of C ah kb
    obtain ⟨M2, O2, fi⟩ := fin_e C1 kp M0 O0
    generalize putL h (hQ nx) (cpL (Hs nx) L) = h1 at *
    obtain ⟨-, g', A', q1, q2, q3, q4, q5⟩ | ⟨q0, -⟩ := hmc h1 (hsx (h1, r)).2
    · obtain ⟨C3, O3⟩ := fi g' A'
      rw [hd] at q2
      refine Or.inl ⟨e, h1, g, g', A, A', he, e98, M2, q1, q2, ⟨cc + 1, s + 6, L, Sv, fun i => if i = nx then cpL (Hs nx) L else Hs i, nx, ct, sv, er, fa, n, m, g', A', ?_, MP_self _ _ _, O3, ?_, by omega, by omega, by omega⟩, kb 0 (Or.inl rfl)⟩
      · rw [q5 6 (by decide) (by decide) (by decide), q5 11 (by decide) (by decide) (by decide)]
        exact CPr_r C3
      · have G2 := GRm_up G (X' := 60 * (((t + 1 : Nat) : Int) - n)) (N' := ((t + 1 : Nat) : Int) - n) (by push_cast; omega) (by push_cast; omega) (by push_cast; omega)
        obtain ⟨b1, b2, b3, b4, b5, b6, b7, b8⟩ := G2
        refine ⟨by rw [q4]; exact b1, b2, ⟨by rw [q3 11 (by decide) (by decide)]; exact b3.1, b3.2⟩, ⟨by rw [q3 22 (by decide) (by decide)]; exact b4.1, b4.2.1, fun k hk => by rw [q5 11 (by decide) (by decide) (by decide)]; exact b4.2.2 k hk⟩, ⟨by rw [q3 7 (by decide) (by decide)]; exact b5.1, by rw [q3 8 (by decide) (by decide)]; exact b5.2⟩, by rw [q3 6 (by decide) (by decide)]; exact b6, ⟨by rw [q3 4 (by decide) (by decide)]; exact b7.1, b7.2.1, fun z => by rw [q5 4 (by decide) (by decide) (by decide)]; exact b7.2.2 z⟩, fun q hq => ?_⟩
        rw [q5 5 (by decide) (by decide) (by decide)]
        have en : ¬ (nx + 9 - ct + q) % 9 = nx := by omega
        simp only [if_neg en]
        exact b8 q hq
    · rw [hd] at q0
      exact absurd hneg q0
  · have hL2 := FL_do hL (by omega) hX60 (by omega) c x y z
    have w2 : WS (doC c x y z L).2.2.2.2.2 := by
      obtain ⟨_, G', _⟩ := hL2
      exact G'.1
    have e98 := m98_ok r ak hc kc hd w2
    have al := AK_line (k := ah) w2
    have a66 := AK_66 (k := al) (nx' := (nx + 1) % 9) (ct' := min (ct + 1) 8) (Nat.mod_lt _ (by decide)) (by omega)
    have kb : ∀ b, b = 0 ∨ 167 ≤ b → pu (putL (putL h (hQ nx) (cpL (Hs nx) L)) 33 (doC c x y z L).2) 66 (hO ((nx + 1) % 9) (min (ct + 1) 8)) b = h b := fun b hb => by
      have : b ≠ 66 := by omega
      simp only [pu, if_neg this]
      rw [putL_out _ w2 (by omega), putL_out h wc (by unfold hQ; omega)]
    obtain ⟨C1, kp⟩ := CPr_of C a66 kb
    generalize pu (putL (putL h (hQ nx) (cpL (Hs nx) L)) 33 (doC c x y z L).2) 66 (hO ((nx + 1) % 9) (min (ct + 1) 8)) = h1 at *
    obtain ⟨C2, M2, ⟨oo, ho⟩, fi⟩ := fin_v C1 kp M0 O0 (doC c x y z L).1.toInt64
    obtain ⟨q0, -⟩ | ⟨-, g', A', q1, q2, q6, q3, q4, q5, q7⟩ := hmc (pu h1 184 (103, [.long (doC c x y z L).1.toInt64])) r
    · exact absurd q0 hd
    · obtain ⟨C3, O3, o3⟩ := fi g' A'
      refine Or.inr ⟨(doC c x y z L).1, h1, g, g', A, A', oo, e98, ho, M2, q1, q2, o3, ⟨cc, s, (doC c x y z L).2, Sv, fun i => if i = nx then cpL (Hs nx) L else Hs i, (nx + 1) % 9, min (ct + 1) 8, sv, er, fa, n, m, g', A', ?_, MP_self _ _ _, O3, ?_, by omega, by omega, by omega⟩, kb 0 (Or.inl rfl)⟩
      · rw [q7 6 (by decide) (by decide) (by decide) (by decide), q7 11 (by decide) (by decide) (by decide) (by decide)]
        exact C3
      · have G2 := GRm_up G (X' := 60 * (((t + 1 : Nat) : Int) - n)) (N' := ((t + 1 : Nat) : Int) - n) (by push_cast; omega) (by push_cast; omega) (by push_cast; omega)
        obtain ⟨b1, b2, b3, b4, b5, b6, b7, b8⟩ := G2
        refine ⟨q4, FL_mono hL2 hX61 (by push_cast; omega) (by push_cast; omega), ⟨by rw [q3 11 (by decide) (by decide) (by decide)]; exact b3.1, b3.2⟩, ⟨by rw [q3 22 (by decide) (by decide) (by decide)]; exact b4.1, b4.2.1, fun k hk => by rw [q7 11 (by decide) (by decide) (by decide) (by decide)]; exact b4.2.2 k hk⟩, ⟨by rw [q3 7 (by decide) (by decide) (by decide)]; exact b5.1, by rw [q3 8 (by decide) (by decide) (by decide)]; exact b5.2⟩, q6, ⟨by rw [q3 4 (by decide) (by decide) (by decide)]; exact b7.1, b7.2.1, fun z => by rw [q7 4 (by decide) (by decide) (by decide) (by decide)]; exact b7.2.2 z⟩, ?_⟩
        rw [q5]
        exact hist_push n9 c8 (MRL_ext (MRL_cp hq.2 ak.2.1.2 hM) (fun y hy => cpA_lt _ _ hy)) (FL_cp hq.2 b2) b8
end CORE
