/-! the invariant is kept when the trains move -/
theorem mem_set {D R : List SL} {s o : SL} {t : TR} (h : o ∈ D ++ (s.1, t) :: R) : o = (s.1, t) ∨ o ∈ D ∨ o ∈ R := by
  rcases List.mem_append.mp h with h | h
  · exact Or.inr (Or.inl h)
  · rcases List.mem_cons.mp h with h | h
    · exact Or.inl h
    · exact Or.inr (Or.inr h)
theorem GI_set {n : Nat} {X l l' : Int} {tk rt f : Nat → Int32} {S D R : List SL} {s : SL} (G : GI n X l tk rt (f, S)) (hP : prs S = D ++ s :: R) {t : TR} (ht1 : t.1 ≠ 1) (htp : 1 ≤ t.1 ∧ t.1 ≤ 4) (h9 : fitp 1 (.int (t.2 9)) = true) (hT : TI n (Z (f 7)) X l' (Z (f 6)) rt t) (ho : ∀ o, o ∈ D ∨ o ∈ R → TI n (Z (f 7)) X l' (Z (f 6)) rt o.2) (hn : t.2 1 = s.2.2 1)
    (hs : t.1 = 4 → ∀ o, o ∈ D ∨ o ∈ R → o.2.1 = 4 → t.2 7 ≠ o.2.2 7) (hc : ∀ k, k < n → (((D ++ (s.1, t) :: R).countP (occP (I k)) : Nat) : Int) ≤ Z (tk k)) : GI n X l' tk rt (f, upS S s.1 t) := by
  obtain ⟨w, g2, g3, g4, g5, g6, g7, g8, g9, g10⟩ := G
  simp only [] at *
  have hpr := prs_up w hP ht1
  have hl : (prs (upS S s.1 t)).length = (prs S).length := by rw [hpr, hP]; simp
  refine ⟨WS_up w s.1 htp h9, g2, by simp only [hl]; exact g3, g4, g5, ?_, ?_, ?_, ?_, by simp only [hl]; exact g10⟩
  · intro o hoo
    simp only [hpr] at hoo
    rcases mem_set hoo with rfl | h
    · exact hT
    · exact ho o h
  · simp only [hpr]; exact srt_same (hP ▸ g7) hn
  · simp only [hpr]
    intro a ha b hb a4 b4 e
    have old : ∀ o, o ∈ D ∨ o ∈ R → o ∈ prs S := fun o h => by rw [hP]; exact mem_DR h
    rcases mem_set ha with rfl | ha <;> rcases mem_set hb with rfl | hb
    · rfl
    · exact absurd e (hs a4 b hb b4)
    · exact absurd e.symm (hs b4 a ha a4)
    · exact g8 a (old a ha) b (old b hb) a4 b4 e
  · simp only [hpr]; exact hc
theorem cnt_sub {P : List SL} {D R : List SL} {s : SL} (hP : P = D ++ s :: R) (q : SL → Bool) : (D ++ R).countP q ≤ P.countP q := by
  rw [hP, List.countP_append, List.countP_append, List.countP_cons]; omega
theorem srt_del {D R : List SL} {s : SL} (hs : SRT (D ++ s :: R)) : SRT (D ++ R) := by
  have key : ∀ P : List SL, SRT P ↔ (P.map fun s => s.2.2 1).Pairwise (· < ·) := by
    intro P
    constructor
    · intro h
      rw [List.pairwise_map]
      induction P with
      | nil => exact List.Pairwise.nil
      | cons a P ih =>
        refine List.Pairwise.cons (fun b hb => (h [] a P rfl).2 b hb) (ih fun D s R e => ?_)
        have := h (a :: D) s R (by rw [e]; rfl)
        exact ⟨fun o ho => this.1 o (List.mem_cons_of_mem _ ho), this.2⟩
    · intro h D s R e
      rw [e, List.map_append, List.map_cons, List.pairwise_append] at h
      refine ⟨fun o ho => h.2.2 _ (List.mem_map_of_mem (f := fun s : SL => s.2.2 1) ho) _ List.mem_cons_self, fun o ho => ?_⟩
      exact (List.pairwise_cons.mp h.2.1).1 _ (List.mem_map_of_mem (f := fun s : SL => s.2.2 1) ho)
  rw [key] at hs ⊢
  exact List.Pairwise.sublist (List.Sublist.map _ (List.Sublist.append_left (List.sublist_cons_self _ _) _)) hs
theorem GI_rem {n : Nat} {X l l' : Int} {tk rt f f' : Nat → Int32} {S D R : List SL} {s : SL} (G : GI n X l tk rt (f, S)) (hP : prs S = D ++ s :: R) (ho : ∀ o, o ∈ D ∨ o ∈ R → TI n (Z (f 7)) X l' (Z (f 6)) rt o.2) (e0 : f' 0 = f 0) (e5 : f' 5 = f 5 - 1) (e6 : f' 6 = f 6) (e7 : f' 7 = f 7) (ht : TT f' (D ++ R).length) {S' : List SL} (hw : WS S') (hpr : prs S' = D ++ R) : GI n X l' tk rt (f', S') := by
  obtain ⟨w, g2, g3, g4, g5, g6, g7, g8, g9, g10⟩ := G
  simp only [] at *
  have old : ∀ o, o ∈ D ++ R → o ∈ D ∨ o ∈ R := fun o h => List.mem_append.mp h
  have old2 : ∀ o, o ∈ D ++ R → o ∈ prs S := fun o h => by rw [hP]; exact mem_DR (old o h)
  refine ⟨hw, by simp only [e0]; exact g2, ?_, g4, by simp only [e7]; exact g5, ?_, ?_, ?_, ?_, by simp only [hpr]; exact ht⟩
  · simp only [e5, hpr]
    rw [g3, hP, I_sub1 (by simp; omega)]; simp
  · simp only [hpr, e6, e7]; exact fun o h => ho o (old o h)
  · simp only [hpr]; exact srt_del (hP ▸ g7)
  · simp only [hpr]; exact fun a ha b hb => g8 a (old2 a ha) b (old2 b hb)
  · simp only [hpr]
    intro k hk
    have := g9 k hk
    have h3 := cnt_sub hP (occP (I k))
    omega
theorem cnt_same {D R : List SL} {s : SL} {t : TR} {q : SL → Bool} (e : q (s.1, t) = q s) : (D ++ (s.1, t) :: R).countP q = (D ++ s :: R).countP q := by
  rw [List.countP_append, List.countP_append, List.countP_cons, List.countP_cons, e]
theorem add64 {x y : Int32} (h1 : -2147483648 ≤ Z x + Z y) (h2 : Z x + Z y < 2147483648) : x.toInt64 + y.toInt64 = (x + y).toInt64 := by
  rw [← Int64.toInt_inj, Int64.toInt_add, Int32.toInt_toInt64, Int32.toInt_toInt64, Int32.toInt_toInt64]
  have := Z_add h1 h2
  unfold Z at this h1 h2
  rw [this]
  exact Int.bmod_eq_of_le (by omega) (by omega)
theorem finF_o (f : Nat → Int32) (t : TR) {i : Nat} (h5 : i ≠ 5) (h8 : i ≠ 8) (h9 : i ≠ 9) (h10 : i ≠ 10) (h11 : i ≠ 11) (h12 : i ≠ 12) : finF f t i = f i := by
  unfold finF
  rw [up_ne _ _ h5, up_ne _ _ h9, up_ne _ _ h8, up_ne _ _ h10]
  by_cases c : f 7 - t.2 5 = 0
  · rw [if_pos c, up_ne _ _ h12, up_ne _ _ h11]
  · rw [if_neg c, up_ne _ _ h11]
/-- the delay of a train that finishes is right -/
theorem TT_fin {f : Nat → Int32} {m : Nat} {t : TR} (h : TT f (m + 1)) (hd : 0 ≤ Z (f 7) - Z (t.2 5) ∧ Z (f 7) - Z (t.2 5) ≤ 31100) : TT (finF f t) m ∧ add_ok f t := by
  obtain ⟨a1, a2, a3, a4, a5, a6, a7, a8, a9, a10⟩ := h
  have hz : Z (f 7 - t.2 5) = Z (f 7) - Z (t.2 5) := Z_sub (by omega) (by omega)
  have e6 : finF f t 6 = f 6 := finF_o f t (by decide) (by decide) (by decide) (by decide) (by decide) (by decide)
  have e8 : finF f t 8 = f 8 + 1 := by
    unfold finF
    by_cases c : f 7 - t.2 5 = 0
    · rw [if_pos c]; simp [up]
    · rw [if_neg c]; simp [up]
  have e10 : finF f t 10 = f 10 + (f 7 - t.2 5) := by
    unfold finF
    by_cases c : f 7 - t.2 5 = 0
    · rw [if_pos c]; simp [up]
    · rw [if_neg c]; simp [up]
  have e11 : finF f t 11 = imax (f 11) (f 7 - t.2 5) := by
    unfold finF
    by_cases c : f 7 - t.2 5 = 0
    · rw [if_pos c]; simp [up]
    · rw [if_neg c]; simp [up]
  have e12 : finF f t 12 = f 12 + (if f 7 - t.2 5 = 0 then 1 else 0) := by
    unfold finF
    by_cases c : f 7 - t.2 5 = 0
    · rw [if_pos c, if_pos c]; simp [up]
    · rw [if_neg c, if_neg c]; simp [up]
  have z8 : Z (f 8 + 1) = Z (f 8) + 1 := Z_add (by rw [Z_1]; omega) (by rw [Z_1]; omega)
  have z10 : Z (f 10 + (f 7 - t.2 5)) = Z (f 10) + (Z (f 7) - Z (t.2 5)) := by rw [Z_add (by rw [hz]; omega) (by rw [hz]; omega), hz]
  have z11 : 0 ≤ Z (imax (f 11) (f 7 - t.2 5)) ∧ Z (imax (f 11) (f 7 - t.2 5)) ≤ 31200 := by
    unfold imax
    split
    · rw [hz]; omega
    · omega
  have z12 : Z (f 12) ≤ Z (f 12 + (if f 7 - t.2 5 = 0 then 1 else 0)) ∧ Z (f 12 + (if f 7 - t.2 5 = 0 then 1 else 0)) ≤ Z (f 12) + 1 := by
    split
    · rw [Z_add (by rw [Z_1]; omega) (by rw [Z_1]; omega), Z_1]; omega
    · rw [Int32.add_zero]; omega
  refine ⟨⟨?_, ?_, ?_, ?_, ?_, ?_, ?_, ?_, ?_, ?_⟩, add64 (by rw [hz]; omega) (by rw [hz]; omega)⟩
  · rw [e8, z8]; omega
  · rw [e8, z8, e6]; push_cast at a2; omega
  · rw [e6]; exact a3
  · rw [e10, z10]; omega
  · rw [e10, z10, e8, z8]; omega
  · rw [e11]; exact z11.1
  · rw [e11]; exact z11.2
  · rw [e8, z8]; intro q; omega
  · rw [e12]; omega
  · rw [e12, e8, z8]; omega
theorem TI_end {n : Nat} {T X l N : Int} {rt : Nat → Int32} {t : TR} (h7 : n ≤ 7) (h : TI n T X l N rt t) : endK t := by
  obtain ⟨a1, a2, _⟩ := h
  have e1 := Z_nat a1.1
  have e2 := Z_nat a2.1
  refine ⟨⟨by rw [Z_lt, Z_0]; omega, by omega⟩, by rw [Z_lt, Z_0]; omega, by omega⟩
theorem TI_ahd {n : Nat} {T X l N : Int} {rt : Nat → Int32} {t : TR} (h7 : n ≤ 7) (h : TI n T X l N rt t) (h4 : t.1 = 4) : ahdT t = t.2 6 := by
  obtain ⟨a1, a2, _, _, _, _, _, _, _, a10⟩ := h
  obtain ⟨b1, _, _⟩ := a10 h4
  unfold ahdT plc
  rw [if_pos h4, Z_eq]
  by_cases c : t.2 2 < t.2 3
  · rw [if_pos c]
    rw [if_pos (Z_lt.mp c)] at b1
    rw [Z_add (by rw [Z_1]; omega) (by rw [Z_1]; omega), Z_1]; omega
  · rw [if_neg c, Int32.add_zero]
    rw [if_neg (fun q => c (Z_lt.mpr q))] at b1
    omega
theorem TI_of {n : Nat} {T X l l' N : Int} {rt : Nat → Int32} {t u : TR} (h : TI n T X l N rt u) (e : ∀ i, i = 1 ∨ i = 2 ∨ i = 3 ∨ i = 4 ∨ i = 5 → t.2 i = u.2 i) (h10 : True) (h11 : Z (t.2 11) ≤ T)
    (h3 : t.1 = 3 → (if Z (u.2 2) < Z (u.2 3) then Z (u.2 2) ≤ Z (t.2 6) ∧ Z (t.2 6) < Z (u.2 3) else Z (u.2 3) < Z (t.2 6) ∧ Z (t.2 6) ≤ Z (u.2 2)) ∧ Z (u.2 5) ≤ Z (t.2 11) + WW rt (Z (t.2 6)) (Z (u.2 3)))
    (h4 : t.1 = 4 → (if Z (u.2 2) < Z (u.2 3) then Z (u.2 2) ≤ Z (t.2 7) ∧ Z (t.2 7) < Z (u.2 3) ∧ Z (t.2 6) = Z (t.2 7) + 1 else Z (u.2 3) ≤ Z (t.2 7) ∧ Z (t.2 7) < Z (u.2 2) ∧ Z (t.2 6) = Z (t.2 7)) ∧ (1 ≤ Z (t.2 8) ∧ Z (t.2 8) ≤ 30) ∧ Z (u.2 5) ≤ T + Z (t.2 8) + WW rt (Z (t.2 6)) (Z (u.2 3)) - (if l' ≤ Z (t.2 7) then 1 else 0)) : TI n T X l' N rt t := by
  obtain ⟨a1, a2, a3, a4, a5, a6, a7, a8, a9, a10⟩ := h
  unfold TI
  rw [e 1 (by simp), e 2 (by simp), e 3 (by simp), e 4 (by simp), e 5 (by simp)]
  exact ⟨a1, a2, a3, a4, a5, h10, a7, h11, h3, h4⟩
/-- a moving train -/
theorem mv_GI {n k : Nat} {X : Int} {tk rt : Nat → Int32} {q : LQ} (hk : k + 1 < n) (G : GI n X k tk rt q) : GI n X (k + 1 : Nat) tk rt (mv1 (I k) q) ∧ mvK (I k) q ∧ ∀ s, q.2.find? (holP (I k)) = some s → mvM rt q s := by
  obtain ⟨f, S⟩ := q
  have G0 := G
  obtain ⟨w, g2, g3, g4, g5, g6, g7, g8, g9, g10⟩ := G
  simp only [] at *
  have h7 := g2.2
  have hIk : Z (I k) = k := Z_I (by omega)
  cases e : S.find? (holP (I k)) with
  | none =>
    have e1 : mv1 (I k) (f, S) = (f, S) := by unfold mv1; simp only [e]
    rw [e1]
    have hnone : ∀ s, s ∈ prs S → s.2.1 = 4 → s.2.2 7 ≠ I k := by
      intro s hs h4 h
      rw [List.find?_eq_none] at e
      exact e s (prs_mem hs).1 (by simp [holP, h4, h])
    refine ⟨⟨w, g2, g3, g4, g5, fun s hs => ?_, g7, g8, g9, g10⟩, ⟨w, fun s es => by simp only [e] at es; cases es⟩, fun s es => by cases es⟩
    exact TI_lim (g6 s hs) (by push_cast; omega)
  | some s =>
    obtain ⟨k1, k2, k3, k4⟩ := find_has w.2.1 e
    have hpl : s.2.1 = 4 ∧ s.2.2 7 = I k := by simpa [holP] using k4
    have hsp : s ∈ prs S := by unfold prs; rw [List.mem_filter]; exact ⟨k3, by simp [hpl.1]⟩
    obtain ⟨D, R, hP⟩ := mem_split hsp
    have hTI := g6 s hsp
    have hTI0 := hTI
    obtain ⟨a1, a2, a3, a4, a5, a6, a7, a8, a9, a10⟩ := hTI
    obtain ⟨b1, b2, b3⟩ := a10 hpl.1
    have hz7 : Z (s.2.2 7) = k := by rw [hpl.2, hIk]
    rw [if_pos (by rw [hz7]; omega)] at b3
    have oth : ∀ o, o ∈ D ∨ o ∈ R → TI n (Z (f 7)) X (k + 1 : Nat) (Z (f 6)) rt o.2 := fun o h => TI_lim (g6 o (by rw [hP]; exact mem_DR h)) (by push_cast; omega)
    have h8 : ¬ s.2.2 8 < 1 := by rw [Z_lt, Z_1]; omega
    have hpz : Z (s.2.2 5) = Z (s.2.2 4) + WW rt (Z (s.2.2 2)) (Z (s.2.2 3)) := by
      rw [a4]; exact plan_Z h7 g4.1 a1 a2 (by omega)
    have hsub : Z (s.2.2 8 - 1) = Z (s.2.2 8) - 1 := by rw [Z_sub (by rw [Z_1]; omega) (by rw [Z_1]; omega), Z_1]
    have hwn : 0 ≤ WW rt (Z (s.2.2 2)) (Z (s.2.2 3)) := by
      unfold WW
      split
      · have := pre_le g4.1 (Z (s.2.2 3)).toNat (Z (s.2.2 2)).toNat (by omega) (by omega); omega
      · have := pre_le g4.1 (Z (s.2.2 2)).toNat (Z (s.2.2 3)).toNat (by omega) (by omega); omega
    -- the train with its time
    have hT1 : ∀ (c : 0 < s.2.2 8 - 1), TI n (Z (f 7)) X (k + 1 : Nat) (Z (f 6)) rt (s.2.1, up s.2.2 8 (s.2.2 8 - 1)) := by
      intro c
      rw [Z_lt, Z_0, hsub] at c
      refine TI_of hTI0 (fun i hi => by rcases hi with rfl | rfl | rfl | rfl | rfl <;> simp [up]) trivial (by simpa [up] using a8) (fun h => by simp only [hpl.1] at h; cases h) (fun _ => ?_)
      simp only [up_eq, up_ne _ _ (show 6 ≠ 8 by decide), up_ne _ _ (show 7 ≠ 8 by decide)]
      refine ⟨b1, by rw [hsub]; omega, ?_⟩
      rw [if_neg (by rw [hz7]; push_cast; omega), hsub]; omega
    have hfin : ¬ 0 < s.2.2 8 - 1 → s.2.2 6 = s.2.2 3 → 0 ≤ Z (f 7) - Z (s.2.2 5) ∧ Z (f 7) - Z (s.2.2 5) ≤ 31100 := by
      intro c h63
      rw [Z_lt, Z_0, hsub] at c
      rw [h63, WW_self] at b3
      omega
    have hlen : (prs S).length = (D ++ R).length + 1 := by rw [hP]; simp; omega
    have hTT : ¬ 0 < s.2.2 8 - 1 → s.2.2 6 = s.2.2 3 → TT (finF f s.2) (D ++ R).length ∧ add_ok f s.2 := fun c h63 => TT_fin (by rw [← hlen]; exact g10) (hfin c h63)
    refine ⟨?_, ⟨w, fun s' es c h63 => by simp only [e] at es; cases es; exact (hTT c h63).2⟩, fun s' es => by
      cases es
      refine ⟨h8, TI_ahd h7 hTI0 hpl.1, fun c h63 => ⟨TI_end h7 hTI0, a4, fun h80 => ⟨?_, ?_⟩⟩⟩
      · rw [Z_eq, Z_0]
        exact g10.2.2.2.2.2.2.2.1 (by simp only [] at h80; rw [h80]; rfl)
      · have hf := hfin c h63
        have hz : Z (f 7 - s.2.2 5) = Z (f 7) - Z (s.2.2 5) := Z_sub (by omega) (by omega)
        rw [Z_lt, Z_0, hz]; omega⟩
    by_cases c : 0 < s.2.2 8 - 1
    · have em : mv1 (I k) (f, S) = (f, upS S s.1 (s.2.1, up s.2.2 8 (s.2.2 8 - 1))) := by unfold mv1; simp only [e, c, if_true]
      rw [em]
      refine GI_set G0 hP (by show ¬ s.2.1 = 1; rw [hpl.1]; decide) (w.2.2.1 s k3) (by simpa [up] using w.2.2.2.2 s k3) (hT1 c) oth (by simp [up]) (fun _ o ho o4 => ?_) (fun j hj => ?_)
      · simp only [up_ne _ _ (show 7 ≠ 8 by decide)]
        intro e7
        have := g8 s hsp o (by rw [hP]; exact mem_DR ho) hpl.1 o4 e7
        subst this
        have nd := srt_eq (P := prs S) g7 hsp hsp rfl
        obtain ⟨x1, x2⟩ := g7 D s R hP
        rcases ho with h | h
        · exact nlt_self _ (x1 s h)
        · exact nlt_self _ (x2 s h)
      · rw [cnt_same (by simp [occP, up]), ← hP]; exact g9 j hj
    · have em : mv1 (I k) (f, S) = arr1 f (upS S s.1 (s.2.1, up s.2.2 8 (s.2.2 8 - 1))) s.1 := by unfold mv1; simp only [e, c, if_false]
      have ht : tr (upS S s.1 (s.2.1, up s.2.2 8 (s.2.2 8 - 1))) s.1 = (s.2.1, up s.2.2 8 (s.2.2 8 - 1)) := tr_up k1 _
      by_cases h63 : s.2.2 6 = s.2.2 3
      · have ea : mv1 (I k) (f, S) = (finF f s.2, remS (upS S s.1 (s.2.1, up s.2.2 8 (s.2.2 8 - 1))) s.1) := by
          rw [em]; unfold arr1; rw [ht, if_pos (by simpa [up] using h63)]
          have e1 : finF f (s.2.1, up s.2.2 8 (s.2.2 8 - 1)) = finF f s.2 := by simp [finF, up]
          rw [e1]
        have w' : WS (upS S s.1 (s.2.1, up s.2.2 8 (s.2.2 8 - 1))) := WS_up w s.1 (w.2.2.1 s k3) (by simpa [up] using w.2.2.2.2 s k3)
        have hpr : prs (upS S s.1 (s.2.1, up s.2.2 8 (s.2.2 8 - 1))) = D ++ (s.1, (s.2.1, up s.2.2 8 (s.2.2 8 - 1))) :: R := prs_up w hP (by rw [hpl.1]; decide)
        rw [ea]
        exact GI_rem G0 hP oth (finF_0 _ _) (by unfold finF; rw [up_eq]) (finF_o _ _ (by decide) (by decide) (by decide) (by decide) (by decide) (by decide)) (finF_7 _ _) (hTT c h63).1 (WS_rem w' ((has_up _ _ _ _).mpr k1)) (prs_rem (s := (s.1, (s.2.1, up s.2.2 8 (s.2.2 8 - 1)))) w' hpr)
      · have ea : mv1 (I k) (f, S) = (f, upS S s.1 (3, up (up (up s.2.2 8 (s.2.2 8 - 1)) 6 (s.2.2 6)) 11 (f 7))) := by
          rw [em]; unfold arr1; rw [ht]
          rw [if_neg (by simpa [up] using h63), upS_upS]
          simp [up]
        rw [ea]
        rw [Z_lt, Z_0, hsub] at c
        have h63z : Z (s.2.2 6) ≠ Z (s.2.2 3) := fun q => h63 (Z_eq.mpr q)
        refine GI_set G0 hP (by show ¬ 3 = 1; decide) (show 1 ≤ 3 ∧ 3 ≤ 4 by decide) (by simpa [up] using w.2.2.2.2 s k3) ?_ oth (by simp [up]) (fun h => by cases h) (fun j hj => ?_)
        · refine TI_of hTI0 (fun i hi => by rcases hi with rfl | rfl | rfl | rfl | rfl <;> simp [up]) trivial (by simp [up]) (fun _ => ?_) (fun h => by cases h)
          simp only [up_eq, up_ne _ _ (show 6 ≠ 11 by decide)]
          refine ⟨?_, by omega⟩
          by_cases cc : Z (s.2.2 2) < Z (s.2.2 3)
          · rw [if_pos cc] at b1 ⊢; omega
          · rw [if_neg cc] at b1 ⊢; omega
        · rw [cnt_same, ← hP]
          · exact g9 j hj
          · have h36 : ¬ s.2.2 3 = s.2.2 6 := fun q => h63 q.symm
            by_cases c6 : s.2.2 6 = I j
            · have h3j : ¬ s.2.2 3 = I j := fun q => h36 (q.trans c6.symm)
              simp [occP, up, hpl.1, c6, h3j]
            · simp [occP, up, hpl.1, c6]
