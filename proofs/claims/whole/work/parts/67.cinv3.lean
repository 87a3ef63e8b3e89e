/-! every command keeps the invariant; both sides carry it out -/
theorem FL_tr {X N : Int} {L : LN} (h : FL X N L) (v t : Int32) : FL X N (dTr v t L).2 := by
  obtain ⟨n, G, nf, wb, pk, hn⟩ := h
  obtain ⟨f, tk, rt, ps, S⟩ := L
  have hl6 := GI_len G
  unfold dTr
  split
  · exact ⟨n, G, nf, wb, pk, hn⟩
  · next c0 =>
    split
    · exact ⟨n, G, nf, wb, pk, hn⟩
    · next c1 =>
      split
      · exact ⟨n, G, nf, wb, pk, hn⟩
      · next c2 =>
        obtain ⟨w, g2, g3, g4, g5, g6, g7, g8, g9, g10⟩ := G
        simp only [] at *
        have h7 := g2.2
        have v0 : ¬ v < 0 := fun q => c0 (Or.inl q)
        have vn : v < I n := by rw [← g2.1]; exact Classical.not_not.mp fun q => c0 (Or.inr q)
        have hvn := nat_lt2 v0 vn h7
        have hv := I_of v0
        have t4 : 1 ≤ Z t ∧ Z t ≤ 4 := by
          have h1 : ¬ t < 1 := fun q => c1 (Or.inl q)
          have h2 : ¬ 4 < t := fun q => c1 (Or.inr q)
          rw [Z_lt, Z_1] at h1; rw [Z_lt, show Z 4 = 4 from rfl] at h2; omega
        refine ⟨n, ⟨w, g2, g3, ⟨g4.1, fun k hk => ?_⟩, g5, g6, g7, g8, fun k hk => ?_, g10⟩, nf, wb, pk, hn.1, fun k hk => ?_⟩
        · simp only []
          by_cases e : k = v.toNatClampNeg
          · subst e; rw [up_eq]; omega
          · rw [up_ne _ _ e]; exact g4.2 k hk
        · simp only []
          by_cases e : k = v.toNatClampNeg
          · subst e
            rw [up_eq, ← hv]
            have hcmp : tk v.toNatClampNeg - freN tk S v = I ((prs S).countP (occP v)) := by
              rw [freN_prs]; generalize I ((prs S).countP (occP v)) = y; grind
            have hc := List.countP_le_length (p := occP v) (l := prs S)
            rw [hcmp, Z_lt, Z_I (by omega)] at c2
            omega
          · rw [up_ne _ _ e]; exact g9 k hk
        · simp only []
          by_cases e : k = v.toNatClampNeg
          · subst e; rw [up_eq]; exact t4.1
          · rw [up_ne _ _ e]; exact hn.2 k hk
theorem FL_ho {X N : Int} {L : LN} (h : FL X N L) (x v : Int32) (hx : fitp 1 (.int x) = true) : FL X N (dHo x v L).2 := by
  obtain ⟨n, G, nf, wb, pk, hn⟩ := h
  obtain ⟨f, tk, rt, ps, S⟩ := L
  unfold dHo
  cases e : S.find? (fndP v) with
  | none => simp only [e]; exact ⟨n, G, nf, wb, pk, hn⟩
  | some s =>
    simp only [e]
    split
    · exact ⟨n, G, nf, wb, pk, hn⟩
    · have G0 := G
      obtain ⟨w, g2, g3, g4, g5, g6, g7, g8, g9, g10⟩ := G
      simp only [] at *
      obtain ⟨k1, k2, k3, k4⟩ := find_has w.2.1 e
      have hp1 := fnd_pr v s k4
      have hs : s ∈ prs S := by unfold prs; rw [List.mem_filter]; exact ⟨k3, by simp [hp1]⟩
      obtain ⟨D, R, hP⟩ := mem_split hs
      have hT := g6 s hs
      obtain ⟨a1, a2, a3, a4, a5, a6, a7, a8, a9, a10⟩ := g6 s hs
      refine ⟨n, GI_set (t := (s.2.1, up s.2.2 9 x)) G0 hP hp1 (w.2.2.1 s k3) (by simpa [up] using hx) ?_ (fun o ho => g6 o (by rw [hP]; exact mem_DR ho)) (by simp [up]) (fun h4 o ho o4 => ?_) (fun k hk => ?_), NF_set w nf hP (t := (s.2.1, up s.2.2 9 x)) hp1, ?_, pk, hn⟩
      · refine TI_of hT (fun i hi => by rcases hi with rfl | rfl | rfl | rfl | rfl <;> simp [up]) trivial (by simpa [up] using a8) (fun h => by simpa [up] using a9 h) (fun h => by simpa [up] using a10 h)
      · simp only [up_ne _ _ (show 7 ≠ 9 by decide)]
        intro e7
        have := g8 s hs o (by rw [hP]; exact mem_DR ho) h4 o4 e7
        subst this
        obtain ⟨x1, x2⟩ := g7 D s R hP
        rcases ho with h | h
        · exact nlt_self _ (x1 s h)
        · exact nlt_self _ (x2 s h)
      · rw [cnt_same (by simp [occP, up]), ← hP]; exact g9 k hk
      · have wbs := wb s hs
        have e2 := prs_up w hP (t := (s.2.1, up s.2.2 9 x)) hp1
        simp only [] at e2 ⊢
        rw [e2]; rw [hP] at wb
        exact WB_set wb (Int.le_refl _) (by simpa [up] using wbs)
theorem FL_ca {X N : Int} {L : LN} (h : FL X N L) (v : Int32) : FL X N (dCa v L).2 := by
  obtain ⟨n, G, nf, wb, pk, hn⟩ := h
  obtain ⟨f, tk, rt, ps, S⟩ := L
  unfold dCa
  cases e : S.find? (fndP v) with
  | none => simp only [e]; exact ⟨n, G, nf, wb, pk, hn⟩
  | some s =>
    simp only [e]
    split
    · exact ⟨n, G, nf, wb, pk, hn⟩
    · have G0 := G
      obtain ⟨w, g2, g3, g4, g5, g6, g7, g8, g9, g10⟩ := G
      simp only [] at *
      obtain ⟨k1, k2, k3, k4⟩ := find_has w.2.1 e
      have hp1 := fnd_pr v s k4
      have hs : s ∈ prs S := by unfold prs; rw [List.mem_filter]; exact ⟨k3, by simp [hp1]⟩
      obtain ⟨D, R, hP⟩ := mem_split hs
      have hlen : (prs S).length = (D ++ R).length + 1 := by rw [hP]; simp; omega
      refine ⟨n, GI_rem G0 hP (fun o ho => g6 o (by rw [hP]; exact mem_DR ho)) (by simp [up]) (by simp [up]) (by simp [up]) (by simp [up]) ?_ (WS_rem w k1) (prs_rem w hP), NF_rem w nf hP, ?_, pk, by simpa [up] using hn.1, hn.2⟩
      · rw [hlen] at g10
        obtain ⟨b1, b2, b3⟩ := g10
        simp only [TT, up_ne _ _ (show 8 ≠ 5 by decide), up_ne _ _ (show 6 ≠ 5 by decide), up_ne _ _ (show 10 ≠ 5 by decide), up_ne _ _ (show 11 ≠ 5 by decide), up_ne _ _ (show 12 ≠ 5 by decide)]
        exact ⟨b1, by push_cast at b2; omega, b3⟩
      · simp only []
        rw [prs_rem w hP]; rw [hP] at wb
        exact WB_del wb
theorem FL_wt {X N : Int} {L : LN} (h : FL X N L) (h0 : 0 ≤ X) (hX : X + 60 ≤ 31100) (v : Int32) : FL (X + 60) N (dWt v L).2 := by
  unfold dWt
  split
  · exact FL_mono h (by omega) hX (Int.le_refl _)
  · next c =>
    obtain ⟨n, G, nf, wb, pk, hn⟩ := h
    obtain ⟨f, tk, rt, ps, S⟩ := L
    simp only [] at *
    have h1 : ¬ v < 1 := fun q => c (Or.inl q)
    have h2 : ¬ 60 < v := fun q => c (Or.inr q)
    rw [Z_lt, Z_1] at h1; rw [Z_lt, show Z 60 = 60 from rfl] at h2
    have hv := Z_nat (x := v) (by omega)
    obtain ⟨G1, _, _⟩ := minN_GI v.toNatClampNeg X (f, S) (by omega) G
    have n1 := NW_minN v.toNatClampNeg X (f, S) h0 (by omega) G ⟨nf, wb⟩
    have e6 := (minN_68 v.toNatClampNeg X (f, S) (by omega) G).1
    refine ⟨n, GI_mono G1 (by omega) hX, n1.1, (NW_mono n1 (by omega)).2, pk, ?_, hn.2⟩
    show Z ((minN tk rt v.toNatClampNeg (f, S)).1 6) ≤ N
    rw [e6]; exact hn.1
theorem srt_snoc {P : List SL} {s : SL} (hs : SRT P) (h : ∀ o, o ∈ P → o.2.2 1 < s.2.2 1) : SRT (P ++ [s]) := by
  intro D q R e
  by_cases hR : R = []
  · subst hR
    have := List.append_inj' e rfl
    obtain ⟨e1, e2⟩ := this
    subst e1
    have : s = q := by simpa using e2
    subst this
    exact ⟨h, fun o ho => absurd ho List.not_mem_nil⟩
  · obtain ⟨R', r, hr⟩ : ∃ R' r, R = R' ++ [r] := ⟨R.dropLast, R.getLast hR, (List.dropLast_concat_getLast hR).symm⟩
    subst hr
    have e' : P ++ [s] = (D ++ q :: R') ++ [r] := by rw [e]; simp
    obtain ⟨e1, e2⟩ := List.append_inj' e' rfl
    have hsr : s = r := by simpa using e2
    obtain ⟨x1, x2⟩ := hs D q R' e1
    refine ⟨x1, fun o ho => ?_⟩
    rcases List.mem_append.mp ho with hh | hh
    · exact x2 o hh
    · have : o = r := by simpa using hh
      rw [this, ← hsr]
      exact h q (by rw [e1]; simp)
theorem FL_tn {X N : Int} {L : LN} (h : FL X N L) (h0 : 0 ≤ X) (hX : X ≤ 31000) (hN : N + 1 ≤ 512) (x y d : Int32) : FL X (N + 1) (dTn x y d L).2 := by
  obtain ⟨n, G, nf, wb, pk, hn⟩ := h
  obtain ⟨f, tk, rt, ps, S⟩ := L
  have hl6 := GI_len G
  unfold dTn
  have hN' : Z (f 6) ≤ N + 1 := by have := hn.1; simp only [] at this; omega
  split
  · exact ⟨n, G, nf, wb, pk, hN', hn.2⟩
  · next c0 =>
    split
    · exact ⟨n, G, nf, wb, pk, hN', hn.2⟩
    · next c1 =>
      split
      · exact ⟨n, G, nf, wb, pk, hN', hn.2⟩
      · next c2 =>
        obtain ⟨w, g2, g3, g4, g5, g6, g7, g8, g9, g10⟩ := G
        simp only [] at *
        have h7 := g2.2
        have hm6 : (prs S).length < 6 := by
          have c2' : I (prs S).length < 6 := by rw [← g3]; exact Classical.not_not.mp c2
          rw [show (6 : Int32) = I 6 from rfl, I_lt (by omega) (by decide)] at c2'
          exact c2'
        rw [g3, I_nat (by omega)]
        have hZn : Z (I n) = n := Z_I (by omega)
        have x2 : 0 ≤ Z x ∧ Z x < n := by
          have q1 : ¬ x < 0 := fun q => c0 (Or.inl (Or.inl q))
          have q2 : x < f 0 := Classical.not_not.mp fun q => c0 (Or.inl (Or.inr q))
          rw [g2.1, Z_lt, hZn] at q2; rw [Z_lt, Z_0] at q1; omega
        have y2 : 0 ≤ Z y ∧ Z y < n := by
          have q1 : ¬ y < 0 := fun q => c0 (Or.inr (Or.inl q))
          have q2 : y < f 0 := Classical.not_not.mp fun q => c0 (Or.inr (Or.inr q))
          rw [g2.1, Z_lt, hZn] at q2; rw [Z_lt, Z_0] at q1; omega
        have hxy : Z x ≠ Z y := fun q => c1 (Or.inl (Z_eq.mpr q))
        have d2 : 1 ≤ Z d ∧ Z d ≤ 99 := by
          have q1 : ¬ d < 1 := fun q => c1 (Or.inr (Or.inl q))
          have q2 : ¬ 99 < d := fun q => c1 (Or.inr (Or.inr q))
          rw [Z_lt, Z_1] at q1; rw [Z_lt, show Z 99 = 99 from rfl] at q2; omega
        obtain ⟨b1, b2, b3, b4, b5, b6, b7, b8, b9, b10⟩ := g10
        have z61 : Z (f 6 + 1) = Z (f 6) + 1 := by rw [Z_add (by rw [Z_1]; omega) (by rw [Z_1]; omega), Z_1]
        have z7d : Z (f 7 + d) = Z (f 7) + Z d := Z_add (by omega) (by omega)
        have hnw := nf_new w nf hm6 (t := (2, ntF f rt x y d)) (by show ¬ 2 = 1; decide)
        have hth : (2, ntF f rt x y d).1 = 2 := rfl
        have ws1 : WS (upS S (homeAt S (prs S).length) (2, ntF f rt x y d)) := WS_up w _ (show 1 ≤ 2 ∧ 2 ≤ 4 by decide) rfl
        have hlen : (prs (upS S (homeAt S (prs S).length) (2, ntF f rt x y d))).length = (prs S).length + 1 := by rw [hnw]; simp
        refine ⟨n, ⟨ws1, by simpa [up] using g2, ?_, g4, by simpa [up] using g5, fun s hs => ?_, ?_, fun s hs o ho h4 o4 e => ?_, fun k hk => ?_, ?_⟩, ?_, ?_, pk, ?_, hn.2⟩
        · simp only [hlen, up_eq]; exact I_1 _
        · simp only [hnw] at hs
          simp only [up_ne _ _ (show 7 ≠ 5 by decide), up_ne _ _ (show 7 ≠ 6 by decide), up_ne _ _ (show 6 ≠ 5 by decide), up_eq, z61]
          rcases List.mem_append.mp hs with hh | hh
          · obtain ⟨a1, a2, a3, a4, a5, a6, a7, a8, a9, a10⟩ := g6 s hh
            exact ⟨a1, a2, a3, a4, a5, a6, by omega, a8, a9, a10⟩
          · have : s = (homeAt S (prs S).length, (2, ntF f rt x y d)) := by simpa using hh
            subst this
            refine ⟨x2, y2, hxy, rfl, ?_, trivial, ?_, ?_, fun h3 => (by cases h3), fun h4 => (by cases h4)⟩
            · show 1 ≤ Z (f 7 + d) ∧ Z (f 7 + d) ≤ Z (f 7) + 99
              rw [z7d]; omega
            · show 1 ≤ Z (f 6 + 1) ∧ Z (f 6 + 1) ≤ Z (f 6) + 1
              rw [z61]; omega
            · show Z (-1) ≤ Z (f 7)
              rw [Z_m1]; omega
        · simp only [hnw]
          refine srt_snoc g7 (fun o ho => ?_)
          show o.2.2 1 < f 6 + 1
          have := (g6 o ho).2.2.2.2.2.2.1
          rw [Z_lt, z61]; omega
        · simp only [hnw] at hs ho
          rcases List.mem_append.mp hs with hh | hh
          · rcases List.mem_append.mp ho with h2 | h2
            · exact g8 s hh o h2 h4 o4 e
            · have : o = (homeAt S (prs S).length, (2, ntF f rt x y d)) := by simpa using h2
              rw [this] at o4; cases o4
          · have : s = (homeAt S (prs S).length, (2, ntF f rt x y d)) := by simpa using hh
            rw [this] at h4; cases h4
        · simp only [hnw]
          rw [List.countP_append, List.countP_singleton]
          have : occP (I k) (homeAt S (prs S).length, ((2, ntF f rt x y d) : TR)) = false := by simp [occP]
          rw [this]
          have := g9 k hk
          simpa using this
        · simp only [hlen, TT, up_ne _ _ (show 8 ≠ 5 by decide), up_ne _ _ (show 8 ≠ 6 by decide), up_ne _ _ (show 6 ≠ 5 by decide), up_ne _ _ (show 10 ≠ 5 by decide), up_ne _ _ (show 10 ≠ 6 by decide), up_ne _ _ (show 11 ≠ 5 by decide), up_ne _ _ (show 11 ≠ 6 by decide), up_ne _ _ (show 12 ≠ 5 by decide), up_ne _ _ (show 12 ≠ 6 by decide), up_eq, z61]
          exact ⟨b1, by push_cast; omega, by omega, b4, b5, b6, b7, b8, b9, b10⟩
        · obtain ⟨Q, hS, hQ⟩ := nf
          cases Q with
          | nil =>
            exfalso
            rw [List.append_nil] at hS
            have := w.1; rw [hS] at this; omega
          | cons s Q =>
            refine ⟨Q, ?_, fun o ho => hQ o (List.mem_cons_of_mem _ ho)⟩
            simp only [hnw]
            have hho : homeAt S (prs S).length = s.1 := by
              unfold homeAt
              rw [hS, prs_app, prs_idem, prs_abs hQ]; simp
            have nd2 : NDH (prs S ++ s :: Q) := hS ▸ w.2.1
            have := upS_mid nd2 (2, ntF f rt x y d)
            rw [← hS] at this
            rw [hho, this]; simp
        · simp only [hnw]
          intro s hs
          rcases List.mem_append.mp hs with hh | hh
          · exact wb s hh
          · have : s = (homeAt S (prs S).length, (2, ntF f rt x y d)) := by simpa using hh
            rw [this]
            show 0 ≤ Z 0 ∧ Z 0 ≤ 6 * X
            rw [Z_0]; omega
        · have := hn.1
          simp only [up_ne _ _ (show 6 ≠ 5 by decide), up_eq, z61]
          omega
