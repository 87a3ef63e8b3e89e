/-! the invariant is kept when trains begin and leave; a whole minute -/
theorem fre_Z {tk : Nat → Int32} {S : List SL} {k : Nat} (h7 : k < 7) (ht : 0 ≤ Z (tk k) ∧ Z (tk k) ≤ 4) (hl : (prs S).length ≤ 6) (h : 0 < freN tk S (I k)) : ((prs S).countP (occP (I k)) : Int) + 1 ≤ Z (tk k) := by
  rw [freN_prs, I_nat (by omega), Z_lt, Z_0] at h
  have hc := List.countP_le_length (p := occP (I k)) (l := prs S)
  have hz : Z (I ((prs S).countP (occP (I k)))) = (prs S).countP (occP (I k)) := Z_I (by omega)
  rw [Z_sub (by rw [hz]; omega) (by rw [hz]; omega), hz] at h
  omega
theorem cnt_one {D R : List SL} {s : SL} {t : TR} (q : SL → Bool) : ((D ++ (s.1, t) :: R).countP q : Int) = (D ++ s :: R).countP q + (if q (s.1, t) = true then 1 else 0) - (if q s = true then 1 else 0) := by
  rw [List.countP_append, List.countP_append, List.countP_cons, List.countP_cons]
  split <;> split <;> push_cast <;> omega
theorem if01 (b : Bool) : 0 ≤ (if b = true then (1 : Int) else 0) ∧ (if b = true then (1 : Int) else 0) ≤ 1 := by cases b <;> simp
theorem GI_len {n : Nat} {X l : Int} {tk rt : Nat → Int32} {q : LQ} (G : GI n X l tk rt q) : (prs q.2).length ≤ 6 := by
  have := G.1.1
  have h2 : (prs q.2).length ≤ q.2.length := by unfold prs; exact List.length_filter_le _ _
  omega
theorem GI_brK {n : Nat} {X l : Int} {tk rt : Nat → Int32} {q : LQ} (G : GI n X l tk rt q) : brK n q.2 ∧ bgK q.2 := by
  obtain ⟨w, g2, g3, g4, g5, g6, g7, g8, g9, g10⟩ := G
  have h7 := g2.2
  refine ⟨⟨w, fun s hs h2 => ?_⟩, w, fun s hs h4 => TI_ahd h7 (g6 s hs) h4, fun s hs h2 => ?_⟩
  · have hp : s ∈ prs q.2 := by unfold prs; rw [List.mem_filter]; exact ⟨hs, by simp [h2]⟩
    obtain ⟨a1, _⟩ := g6 s hp
    rw [Z_lt, Z_lt, Z_0, Z_I (by omega)]; omega
  · obtain ⟨a1, _⟩ := g6 s hs
    exact ⟨(s.2.2 2).toNatClampNeg, by have := Z_nat a1.1; omega, Z_of a1.1⟩
theorem br_GI {n : Nat} {X l : Int} {tk rt f : Nat → Int32} {S : List SL} (G : GI n X l tk rt (f, S)) (j : Nat) (hj : has S j) : GI n X l tk rt (f, br1 f tk S j) := by
  have G0 := G
  have hl6 := GI_len G
  obtain ⟨w, g2, g3, g4, g5, g6, g7, g8, g9, g10⟩ := G
  simp only [] at *
  have h7 := g2.2
  unfold br1
  split
  · next hc =>
    obtain ⟨c1, c2, c3⟩ := hc
    obtain ⟨D0, R0, hS⟩ := has_ex hj
    have hm : (j, tr S j) ∈ S := (congrArg (fun l => (j, tr S j) ∈ l) hS).mpr (List.mem_append_right _ List.mem_cons_self)
    have hp : (j, tr S j) ∈ prs S := by unfold prs; rw [List.mem_filter]; exact ⟨hm, by simp [c1]⟩
    obtain ⟨D, R, hP⟩ := mem_split hp
    have hTI := g6 _ hp
    have hTI0 := hTI
    obtain ⟨a1, a2, a3, a4, a5, a6, a7, a8, a9, a10⟩ := hTI
    simp only [] at *
    have hpz : Z ((tr S j).2 5) = Z ((tr S j).2 4) + WW rt (Z ((tr S j).2 2)) (Z ((tr S j).2 3)) := by
      rw [a4]; exact plan_Z h7 g4.1 a1 a2 (by omega)
    rw [Z_lt] at c2
    have hst := Z_of a1.1
    have hsn := Z_nat a1.1
    have hfr : ((prs S).countP (occP ((tr S j).2 2)) : Int) + 1 ≤ Z (tk ((tr S j).2 2).toNatClampNeg) := by
      have := fre_Z (tk := tk) (S := S) (k := ((tr S j).2 2).toNatClampNeg) (by omega) (g4.2 _ (by omega)) hl6 (by rw [← hst]; exact c3)
      rwa [← hst] at this
    refine GI_set (s := (j, tr S j)) G0 hP (by show ¬ 3 = 1; decide) (show 1 ≤ 3 ∧ 3 ≤ 4 by decide) (by simpa [up] using w.2.2.2.2 _ hm) ?_ (fun o ho => g6 o (by rw [hP]; exact mem_DR ho)) (by simp [up]) (fun h => by cases h) (fun k hk => ?_)
    · refine TI_of hTI0 (fun i hi => by rcases hi with rfl | rfl | rfl | rfl | rfl <;> simp [up]) trivial (by simp [up]) (fun _ => ?_) (fun h => by cases h)
      simp only [up_eq, up_ne _ _ (show 6 ≠ 11 by decide)]
      refine ⟨?_, by rw [hpz]; omega⟩
      by_cases cc : Z ((tr S j).2 2) < Z ((tr S j).2 3)
      · rw [if_pos cc]; omega
      · rw [if_neg cc]; omega
    · rw [cnt_one, ← hP]
      have o1 : occP (I k) (j, tr S j) = false := by simp [occP, c1]
      rw [o1]
      by_cases e : (tr S j).2 2 = I k
      · have hk2 : ((tr S j).2 2).toNatClampNeg = k := by rw [e, I_nat (by omega)]
        rw [hk2, e] at hfr
        split <;> simp <;> omega
      · have o2 : occP (I k) (j, ((3, up (up (tr S j).2 6 ((tr S j).2 2)) 11 (f 7)) : TR)) = false := by simp [occP, up, e]
        rw [o2]
        have := g9 k hk
        simpa using this
  · exact G0
theorem br_GI_all {n : Nat} {X l : Int} {tk rt f : Nat → Int32} : ∀ (J : List Nat) (S : List SL), GI n X l tk rt (f, S) → (∀ j, j ∈ J → has S j) → GI n X l tk rt (f, J.foldl (br1 f tk) S)
  | [], _, G, _ => G
  | j :: J, S, G, hh => by
    rw [List.foldl_cons]
    refine br_GI_all J _ (br_GI G j (hh j List.mem_cons_self)) (fun i hi => ?_)
    unfold br1
    split
    · exact (has_up _ _ _ _).mpr (hh i (List.mem_cons_of_mem _ hi))
    · exact hh i (List.mem_cons_of_mem _ hi)
/-- where a standing train goes -/
theorem TI_try {n : Nat} {T X l N : Int} {rt : Nat → Int32} {t : TR} (h7 : n ≤ 7) (h : TI n T X l N rt t) (h3 : t.1 = 3) :
    (Z (t.2 6 + stp_ t) = (if Z (t.2 2) < Z (t.2 3) then Z (t.2 6) + 1 else Z (t.2 6) - 1)) ∧ Z (imin (t.2 6 + stp_ t) (t.2 6)) = (if Z (t.2 2) < Z (t.2 3) then Z (t.2 6) else Z (t.2 6) - 1) ∧ tryK n t ∧ tryM t := by
  obtain ⟨a1, a2, a3, a4, a5, a6, a7, a8, a9, a10⟩ := h
  obtain ⟨b1, b2⟩ := a9 h3
  have e1 : Z (t.2 6 + stp_ t) = (if Z (t.2 2) < Z (t.2 3) then Z (t.2 6) + 1 else Z (t.2 6) - 1) := by
    unfold stp_
    by_cases c : t.2 2 < t.2 3
    · rw [if_pos c]; rw [if_pos (Z_lt.mp c)] at b1 ⊢
      rw [Z_add (by rw [Z_1]; omega) (by rw [Z_1]; omega), Z_1]
    · rw [if_neg c]; rw [if_neg (fun q => c (Z_lt.mpr q))] at b1 ⊢
      rw [Z_add (by rw [Z_m1]; omega) (by rw [Z_m1]; omega), Z_m1]; omega
  have e2 : Z (imin (t.2 6 + stp_ t) (t.2 6)) = (if Z (t.2 2) < Z (t.2 3) then Z (t.2 6) else Z (t.2 6) - 1) := by
    unfold imin
    by_cases c : Z (t.2 2) < Z (t.2 3)
    · rw [if_pos c] at e1 ⊢
      rw [if_neg (by rw [Z_lt]; omega)]
    · rw [if_neg c] at e1 ⊢
      rw [if_pos (by rw [Z_lt]; omega), e1]
  have hn : Z (I n) = n := Z_I (by omega)
  have e3 : imin (t.2 6 + stp_ t) (t.2 6) = (if t.2 2 < t.2 3 then t.2 6 else t.2 6 - 1) := by
    rw [Z_eq, e2]
    by_cases c : t.2 2 < t.2 3
    · rw [if_pos c, if_pos (Z_lt.mp c)]
    · rw [if_neg c, if_neg (fun q => c (Z_lt.mpr q))]
      rw [if_neg (fun q => c (Z_lt.mpr q))] at b1
      rw [Z_sub (by rw [Z_1]; omega) (by rw [Z_1]; omega), Z_1]
  have r1 : 0 ≤ Z (t.2 6 + stp_ t) ∧ Z (t.2 6 + stp_ t) < n := by
    rw [e1]
    split at b1
    · next c => rw [if_pos c]; omega
    · next c => rw [if_neg c]; omega
  have r2 : 0 ≤ Z (imin (t.2 6 + stp_ t) (t.2 6)) ∧ Z (imin (t.2 6 + stp_ t) (t.2 6)) + 1 < n := by
    rw [e2]
    split at b1
    · next c => rw [if_pos c]; omega
    · next c => rw [if_neg c]; omega
  refine ⟨e1, e2, ⟨⟨by rw [Z_lt, Z_0]; omega, by rw [Z_lt, hn]; omega⟩, by rw [Z_lt, Z_0]; omega, by rw [Z_lt, Z_I (by omega)]; omega⟩, ⟨_, ?_, Z_of r1.1⟩, ⟨_, ?_, Z_of r2.1⟩, e3⟩
  · have := Z_nat r1.1; omega
  · have := Z_nat r2.1; omega
theorem go_GI {n : Nat} {X : Int} {tk rt f : Nat → Int32} {S : List SL} {s : SL} (G : GI n X ((n - 1 : Nat) : Int) tk rt (f, S)) (hs : s ∈ prs S) : GI n X ((n - 1 : Nat) : Int) tk rt (f, go1 f tk rt S s.1) := by
  have G0 := G
  have hl6 := GI_len G
  obtain ⟨w, g2, g3, g4, g5, g6, g7, g8, g9, g10⟩ := G
  simp only [] at *
  have h7 := g2.2
  obtain ⟨hsS, hp1⟩ := prs_mem hs
  obtain ⟨D2, R2, h2⟩ := mem_split hsS
  have ht := tr_mid w.2.1 h2
  unfold go1
  rw [ht]
  split
  · next hc =>
    obtain ⟨c1, c2, c3⟩ := hc
    obtain ⟨D, R, hP⟩ := mem_split hs
    have hTI0 := g6 s hs
    obtain ⟨e1, e2, _, tm⟩ := TI_try h7 hTI0 c1
    obtain ⟨a1, a2, a3, a4, a5, a6, a7, a8, a9, a10⟩ := g6 s hs
    obtain ⟨b1, b2⟩ := a9 c1
    have oth : ∀ o, o ∈ D ∨ o ∈ R → TI n (Z (f 7)) X ((n - 1 : Nat) : Int) (Z (f 6)) rt o.2 := fun o ho => g6 o (by rw [hP]; exact mem_DR ho)
    have hca : Z (s.2.2 11) < Z (f 7) := by
      have : Z (s.2.2 11) ≠ Z (f 7) := fun q => c2 (Z_eq.mpr q)
      omega
    unfold try1
    rw [ht]
    split
    · next hd =>
      obtain ⟨d1, d2⟩ := hd
      have hx0 : 0 ≤ Z (imin (s.2.2 6 + stp_ s.2) (s.2.2 6)) := by
        rw [e2]
        split at b1
        · next c => rw [if_pos c]; omega
        · next c => rw [if_neg c]; omega
      have hxn := Z_nat hx0
      have hrt := g4.1 (imin (s.2.2 6 + stp_ s.2) (s.2.2 6)).toNatClampNeg (by
        rw [e2] at hxn
        split at b1
        · next c => rw [if_pos c] at hxn; omega
        · next c => rw [if_neg c] at hxn; omega)
      have hww : WW rt (Z (s.2.2 6)) (Z (s.2.2 3)) = Z (rt (imin (s.2.2 6 + stp_ s.2) (s.2.2 6)).toNatClampNeg) + 1 + WW rt (Z (s.2.2 6 + stp_ s.2)) (Z (s.2.2 3)) := by
        split at b1
        · next c =>
          rw [if_pos c] at e1 e2
          rw [e1, WW_step (by omega) b1.2, show (imin (s.2.2 6 + stp_ s.2) (s.2.2 6)).toNatClampNeg = (Z (s.2.2 6)).toNat by omega]
        · next c =>
          rw [if_neg c] at e1 e2
          rw [e1, WW_stepd (by omega) b1.1, show (imin (s.2.2 6 + stp_ s.2) (s.2.2 6)).toNatClampNeg = (Z (s.2.2 6) - 1).toNat by omega]
      refine GI_set G0 hP (by show ¬ 4 = 1; decide) (show 1 ≤ 4 ∧ 4 ≤ 4 by decide) (by simpa [up] using w.2.2.2.2 s hsS) ?_ oth (by simp [up]) (fun _ o ho o4 => ?_) (fun k hk => ?_)
      · refine TI_of hTI0 (fun i hi => by rcases hi with rfl | rfl | rfl | rfl | rfl <;> simp [up]) trivial (by simpa [up] using a8) (fun h => by cases h) (fun _ => ?_)
        simp only [up_eq, up_ne _ _ (show 6 ≠ 8 by decide), up_ne _ _ (show 7 ≠ 8 by decide), up_ne _ _ (show 7 ≠ 6 by decide)]
        refine ⟨?_, hrt, ?_⟩
        · rw [e1, e2]
          split at b1
          · next c => rw [if_pos c, if_pos c, if_pos c]; omega
          · next c => rw [if_neg c, if_neg c, if_neg c]; omega
        · rw [if_neg]
          · omega
          · rw [e2]
            split at b1
            · next c => rw [if_pos c]; omega
            · next c => rw [if_neg c]; omega
      · simp only [up_eq, up_ne _ _ (show 7 ≠ 8 by decide), up_ne _ _ (show 7 ≠ 6 by decide)]
        intro q
        rw [List.find?_eq_none] at d2
        have ho2 : o ∈ prs S := by rw [hP]; exact mem_DR ho
        exact d2 o (prs_mem ho2).1 (by simp [holP, o4, q.symm])
      · rw [cnt_one, ← hP]
        have hg := g9 k hk
        by_cases ek : s.2.2 6 + stp_ s.2 = I k
        · by_cases ed : s.2.2 3 = I k
          · have o2 : occP (I k) (s.1, ((4, up (up (up s.2.2 7 (imin (s.2.2 6 + stp_ s.2) (s.2.2 6))) 6 (s.2.2 6 + stp_ s.2)) 8 (rt (imin (s.2.2 6 + stp_ s.2) (s.2.2 6)).toNatClampNeg)) : TR)) = false := by simp [occP, up, ed]
            rw [o2, if_neg (by decide)]; have h01 := if01 (occP (I k) s); omega
          · have hfr := d1.resolve_left (fun q => ed (q ▸ ek))
            rw [ek] at hfr
            have := fre_Z (by omega) (g4.2 k (by omega)) hl6 hfr
            have h01 := if01 (occP (I k) s)
            have h02 := if01 (occP (I k) (s.1, ((4, up (up (up s.2.2 7 (imin (s.2.2 6 + stp_ s.2) (s.2.2 6))) 6 (s.2.2 6 + stp_ s.2)) 8 (rt (imin (s.2.2 6 + stp_ s.2) (s.2.2 6)).toNatClampNeg)) : TR)))
            omega
        · have o2 : occP (I k) (s.1, ((4, up (up (up s.2.2 7 (imin (s.2.2 6 + stp_ s.2) (s.2.2 6))) 6 (s.2.2 6 + stp_ s.2)) 8 (rt (imin (s.2.2 6 + stp_ s.2) (s.2.2 6)).toNatClampNeg)) : TR)) = false := by simp [occP, up, ek]
          rw [o2, if_neg (by decide)]; have h01 := if01 (occP (I k) s); omega
    · refine GI_set G0 hP hp1 (w.2.2.1 s hsS) (by simpa [up] using w.2.2.2.2 s hsS) ?_ oth (by simp [up]) (fun h => by rw [c1] at h; cases h) (fun k hk => ?_)
      · refine TI_of hTI0 (fun i hi => by rcases hi with rfl | rfl | rfl | rfl | rfl <;> simp [up]) trivial (by simpa [up] using a8) (fun h => by simpa [up] using a9 h) (fun h => by rw [c1] at h; cases h)
      · rw [cnt_same (by simp [occP, up]), ← hP]; exact g9 k hk
  · exact G0
