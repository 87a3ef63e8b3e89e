/-! a train alone arrives as planned -/
theorem one_mem {P : List SL} {j : Nat} {t : TR} (h : P = [(j, t)]) {s : SL} : s ∈ P ↔ s = (j, t) := by rw [h]; simp
theorem has_prs {S : List SL} (w : WS S) {s : SL} (hs : s ∈ prs S) : has S s.1 ∧ tr S s.1 = s.2 ∧ s ∈ S := by
  obtain ⟨hsS, _⟩ := prs_mem hs
  obtain ⟨D2, R2, h2⟩ := mem_split hsS
  exact ⟨has_mid w.2.1 h2, tr_mid w.2.1 h2, hsS⟩
/-- the sections are empty: nothing moves -/
theorem mvN_id {n : Nat} : ∀ (c k : Nat) (q : LQ), k + c ≤ n → (∀ i, k ≤ i → i < k + c → q.2.find? (holP (I i)) = none) → mvN k c q = q
  | 0, _, _, _, _ => rfl
  | c + 1, k, q, h, hn => by
    have e1 : mv1 (I k) q = q := by unfold mv1; rw [hn k (Nat.le_refl _) (by omega)]
    rw [mvN, e1]
    exact mvN_id (n := n) c (k + 1) q (by omega) (fun i i1 i2 => hn i (by omega) (by omega))
theorem mvN_at {k0 : Nat} : ∀ (c k : Nat) (q : LQ), k ≤ k0 → k0 < k + c → (∀ i, k ≤ i → i < k0 → q.2.find? (holP (I i)) = none) → (∀ i, k0 < i → i < k + c → (mv1 (I k0) q).2.find? (holP (I i)) = none) → mvN k c q = mv1 (I k0) q
  | 0, _, _, h1, h2, _, _ => by omega
  | c + 1, k, q, h1, h2, ha, hb => by
    rw [mvN]
    by_cases e : k = k0
    · subst e
      exact mvN_id (n := k + 1 + c) c (k + 1) _ (by omega) (fun i i1 i2 => hb i (by omega) (by omega))
    · have e1 : mv1 (I k) q = q := by unfold mv1; rw [ha k (Nat.le_refl _) (by omega)]
      rw [e1]
      exact mvN_at c (k + 1) q (by omega) (by omega) (fun i i1 i2 => ha i (by omega) i2) (fun i i1 i2 => hb i i1 (by omega))
theorem find_nil {S : List SL} (h : prs S = []) (v : Int32) : S.find? (holP v) = none := by
  rw [← find_prs (hol_pr v), h]; rfl
theorem find_one {S : List SL} {j : Nat} {t : TR} (h : prs S = [(j, t)]) (v : Int32) : S.find? (holP v) = if t.1 = 4 ∧ t.2 7 = v then some (j, t) else none := by
  rw [← find_prs (hol_pr v), h, List.find?_cons, List.find?_nil]
  by_cases c : t.1 = 4 ∧ t.2 7 = v
  · rw [if_pos c]; simp [holP, c.1, c.2]
  · rw [if_neg c]
    have : holP v (j, t) = false := by simp only [holP]; by_cases c1 : t.1 = 4 <;> by_cases c2 : t.2 7 = v <;> simp [c1, c2] <;> exact c ⟨c1, c2⟩
    rw [this]
/-- only one train is there: only it can come -/
theorem br_one {f tk : Nat → Int32} {S : List SL} (w : WS S) {j : Nat} {t : TR} (h : prs S = [(j, t)]) : (S.map Prod.fst).foldl (br1 f tk) S = br1 f tk S j := by
  rw [fold_br f tk (S.map Prod.fst) S (fun i hi => by
    obtain ⟨s, hs, rfl⟩ := List.mem_map.mp hi
    obtain ⟨D, R, hS⟩ := mem_split hs
    exact has_mid w.2.1 hS), ← prs_fst w, h]
  rfl
theorem br_nil {f tk : Nat → Int32} {S : List SL} (w : WS S) (h : prs S = []) : (S.map Prod.fst).foldl (br1 f tk) S = S := by
  rw [fold_br f tk (S.map Prod.fst) S (fun i hi => by
    obtain ⟨s, hs, rfl⟩ := List.mem_map.mp hi
    obtain ⟨D, R, hS⟩ := mem_split hs
    exact has_mid w.2.1 hS), ← prs_fst w, h]
  rfl
theorem srt_one (j : Nat) (t : TR) : SRT [(j, t)] := by
  rw [srt_iff]; simp
theorem go_one {f tk rt : Nat → Int32} {S : List SL} (w : WS S) {j : Nat} {t : TR} (h : prs S = [(j, t)]) (hw : WS (go1 f tk rt S j)) : goN f tk rt 6 (nxS none S) S = go1 f tk rt S j := by
  have hs : SRT (prs S) := by rw [h]; exact srt_one j t
  obtain ⟨q, e1, e2, _⟩ := nx_first hs (by rw [h]; simp)
  have : q = (j, t) := (one_mem h).mp e2
  subst this
  rw [e1, goN]
  obtain ⟨u, g1, _, _, g4⟩ := go_prs2 (f := f) (tk := tk) (rt := rt) (s := (j, t)) (D := []) (R := []) w h
  simp only [] at g1 g4
  rw [List.nil_append] at g1
  rw [g4]
  have hs2 : SRT (prs (go1 f tk rt S j)) := by rw [g1]; exact srt_one j u
  have hn : nxS (some u) (go1 f tk rt S j) = none := by
    rcases nx_next hs2 (s := (j, u)) (by rw [g1]; simp) with ⟨a, _⟩ | ⟨q, _, q2, q3⟩
    · exact a
    · have : q = (j, u) := (one_mem g1).mp q2
      rw [this] at q3; omega
  rw [hn]; rfl
theorem fre_one {tk : Nat → Int32} {S : List SL} {j : Nat} {t : TR} (h : prs S = [(j, t)]) {k : Nat} (h7 : k < 7) (ht : 1 ≤ Z (tk k) ∧ Z (tk k) ≤ 4) (ho : occP (I k) (j, t) = false) : 0 < freN tk S (I k) := by
  rw [freN_prs, I_nat (by omega), h, List.countP_singleton, ho]
  simp only [Bool.false_eq_true, if_false]
  rw [Z_lt, Z_0, Z_sub (by rw [Z_I (by decide)]; omega) (by rw [Z_I (by decide)]; omega), Z_I (by decide)]; omega
/-- how many minutes the train has still to go -/
def rho (T : Int) (rt : Nat → Int32) (t : TR) : Int := if t.1 = 2 then Z (t.2 4) - T + WW rt (Z (t.2 2)) (Z (t.2 3)) else if t.1 = 3 then WW rt (Z (t.2 6)) (Z (t.2 3)) else Z (t.2 8) + WW rt (Z (t.2 6)) (Z (t.2 3))
/-- one train, not held, on its way; it arrives at pl -/
def ALO (n : Nat) (X : Int) (tk rt : Nat → Int32) (v pl : Int32) (q : LQ) : Prop := GI n X ((n - 1 : Nat) : Int) tk rt q ∧ ∃ j t, prs q.2 = [(j, t)] ∧ t.2 9 = 0 ∧ t.2 1 = v ∧ (t.1 = 2 → Z (q.1 7) < Z (t.2 4)) ∧ (t.1 = 3 → t.2 11 = q.1 7) ∧ (t.1 = 2 ∨ t.1 = 3 ∨ t.1 = 4) ∧ Z pl = Z (q.1 7) + rho (Z (q.1 7)) rt t
theorem WW_pos {rt : Nat → Int32} {n : Nat} (hr : ∀ k, k + 1 < n → 1 ≤ Z (rt k) ∧ Z (rt k) ≤ 30) {x y : Int} (hx : 0 ≤ x ∧ x < n) (hy : 0 ≤ y ∧ y < n) (hn : x ≠ y) : 2 ≤ WW rt x y := by
  unfold WW
  split
  · have := pre_le hr y.toNat x.toNat (by omega) (by omega); omega
  · have := pre_le hr x.toNat y.toNat (by omega) (by omega); omega
theorem prs_up1 {S : List SL} (w : WS S) {j : Nat} {t u : TR} (h : prs S = [(j, t)]) (hu : u.1 ≠ 1) : prs (upS S j u) = [(j, u)] := by
  have := prs_up (s := (j, t)) (D := []) (R := []) w (by rw [h]; rfl) hu
  simpa using this
theorem alo_min {n : Nat} {X : Int} {tk rt : Nat → Int32} {v pl : Int32} {q : LQ} (hX : X + 1 ≤ 31100) (ht : TKP n tk) (A : ALO n X tk rt v pl q) :
    (prs (minQ tk rt q).2 = [] ∧ (minQ tk rt q).1 7 = pl) ∨ ALO n (X + 1) tk rt v pl (minQ tk rt q) := by
  obtain ⟨G, j, t, hp, h9, h1, hE, hS, hpl, hr⟩ := A
  obtain ⟨f, S⟩ := q
  obtain ⟨G', _, _⟩ := minute_GI hX G
  have w := G.1
  have g2 := G.2.1
  have g4 := G.2.2.2.1
  have g5 := G.2.2.2.2.1
  simp only [] at *
  have hm : (j, t) ∈ prs S := by rw [hp]; simp
  have hTI := G.2.2.2.2.2.1 (j, t) hm
  simp only [] at hTI
  obtain ⟨hh, htr, hmS⟩ := has_prs w hm
  simp only [] at hh htr
  obtain ⟨a1, a2, a3, a4, a5, a6, a7, a8, a9, a10⟩ := id hTI
  have z71 : Z (f 7 + 1) = Z (f 7) + 1 := by rw [Z_add (by rw [Z_1]; omega) (by rw [Z_1]; omega), Z_1]
  have hww := WW_pos g4.1 a1 a2 a3
  have hf7 : up f 7 (f 7 + 1) 7 = f 7 + 1 := up_eq _ _ _
  have e1 : min1 tk rt (f, S) = mvN 0 (n - 1) (up f 7 (f 7 + 1), S) := by unfold min1; simp only [g2.1, I_nat7 g2.2]
  -- nothing in the sections
  have still : t.1 ≠ 4 → min1 tk rt (f, S) = (up f 7 (f 7 + 1), S) := fun h4 => by
    rw [e1]
    refine mvN_id (n := n) (n - 1) 0 _ (by omega) (fun i _ _ => ?_)
    show S.find? _ = none
    rw [find_one hp, if_neg (fun q => h4 q.1)]
  have fin : ∀ F T u, WS T → min1 tk rt (f, S) = (F, T) → prs T = [(j, u)] → (br1 F tk T j = T) → ((u.1 = 3 → u.2 11 = F 7)) → minQ tk rt (f, S) = (F, T) := by
    intro F T u wT em hpT hb h3
    have hmT : (j, u) ∈ prs T := by rw [hpT]; simp
    obtain ⟨_, htT, _⟩ := has_prs wT hmT
    simp only [] at htT
    have e2 : min2 tk rt (f, S) = T := by unfold min2; rw [em]; simp only []; rw [br_one wT hpT, hb]
    have eg : go1 F tk rt T j = T := by
      unfold go1; rw [htT, if_neg (fun q => q.2.1 (h3 q.1))]
    unfold minQ
    rw [e2, em]
    simp only []
    rw [go_one wT hpT (by rw [eg]; exact wT), eg]
  by_cases c2 : t.1 = 2
  · have hT := hE c2
    have hrho : rho (Z (f 7)) rt t = Z (t.2 4) - Z (f 7) + WW rt (Z (t.2 2)) (Z (t.2 3)) := by unfold rho; rw [if_pos c2]
    rw [hrho] at hr
    have em := still (by rw [c2]; decide)
    by_cases c3 : f 7 + 1 < t.2 4
    · have hb : br1 (up f 7 (f 7 + 1)) tk S j = S := by
        unfold br1; rw [htr, hf7, if_neg (fun q => q.2.1 c3)]
      have eq := fin _ S t w em hp hb (fun h => by rw [c2] at h; cases h)
      refine Or.inr ?_
      rw [eq] at G' ⊢
      refine ⟨G', j, t, hp, h9, h1, fun _ => ?_, fun h => (by rw [c2] at h; cases h), hpl, ?_⟩
      · show Z (up f 7 (f 7 + 1) 7) < _
        rw [hf7]; exact Z_lt.mp c3
      · show Z pl = Z (up f 7 (f 7 + 1) 7) + rho (Z (up f 7 (f 7 + 1) 7)) rt t
        rw [hf7, z71]; unfold rho; rw [if_pos c2]; omega
    · have hdp : Z (t.2 4) = Z (f 7) + 1 := by rw [Z_lt, z71] at c3; omega
      have hst := Z_of a1.1
      have hsn := Z_nat a1.1
      have hfr : 0 < freN tk S (t.2 2) := by
        have := fre_one (tk := tk) hp (k := (t.2 2).toNatClampNeg) (by omega) ⟨ht _ (by omega), (g4.2 _ (by omega)).2⟩ (by simp [occP, c2])
        rwa [← hst] at this
      have hS2 : br1 (up f 7 (f 7 + 1)) tk S j = upS S j (3, up (up t.2 6 (t.2 2)) 11 (f 7 + 1)) := by
        unfold br1; rw [htr, hf7, if_pos ⟨c2, c3, hfr⟩]
      have w2 : WS (upS S j (3, up (up t.2 6 (t.2 2)) 11 (f 7 + 1))) := WS_up w j (show 1 ≤ 3 ∧ 3 ≤ 4 by decide) (by simpa [up] using w.2.2.2.2 _ hmS)
      have hp2 := prs_up1 w hp (u := (3, up (up t.2 6 (t.2 2)) 11 (f 7 + 1))) (by show ¬ 3 = 1; decide)
      have e2 : min2 tk rt (f, S) = upS S j (3, up (up t.2 6 (t.2 2)) 11 (f 7 + 1)) := by unfold min2; rw [em]; simp only []; rw [br_one w hp, hS2]
      have eg : go1 (up f 7 (f 7 + 1)) tk rt (upS S j (3, up (up t.2 6 (t.2 2)) 11 (f 7 + 1))) j = upS S j (3, up (up t.2 6 (t.2 2)) 11 (f 7 + 1)) := by
        unfold go1; rw [tr_up hh, hf7, if_neg (fun q => q.2.1 (show up (up t.2 6 (t.2 2)) 11 (f 7 + 1) 11 = f 7 + 1 from up_eq _ _ _))]
      have eq : minQ tk rt (f, S) = (up f 7 (f 7 + 1), upS S j (3, up (up t.2 6 (t.2 2)) 11 (f 7 + 1))) := by
        unfold minQ; rw [e2, em]; simp only []; rw [go_one w2 hp2 (by rw [eg]; exact w2), eg]
      refine Or.inr ?_
      rw [eq] at G' ⊢
      refine ⟨G', j, _, hp2, by simpa [up] using h9, by simpa [up] using h1, fun h => (by cases h), fun _ => ?_, Or.inr (Or.inl rfl), ?_⟩
      · simp [up]
      · show Z pl = Z (up f 7 (f 7 + 1) 7) + rho (Z (up f 7 (f 7 + 1) 7)) rt (3, up (up t.2 6 (t.2 2)) 11 (f 7 + 1))
        rw [hf7, z71]
        have : rho (Z (f 7) + 1) rt (3, up (up t.2 6 (t.2 2)) 11 (f 7 + 1)) = WW rt (Z (t.2 2)) (Z (t.2 3)) := by simp [rho, up]
        rw [this]; omega
  · by_cases c3 : t.1 = 3
    · have hT := hS c3
      have hrho : rho (Z (f 7)) rt t = WW rt (Z (t.2 6)) (Z (t.2 3)) := by unfold rho; rw [if_neg c2, if_pos c3]
      rw [hrho] at hr
      have em := still (by rw [c3]; decide)
      obtain ⟨b1, b2⟩ := a9 c3
      obtain ⟨t1, t2, _, tm⟩ := TI_try g2.2 hTI c3
      have hb : br1 (up f 7 (f 7 + 1)) tk S j = S := by unfold br1; rw [htr, if_neg (fun q => c2 q.1)]
      have e2 : min2 tk rt (f, S) = S := by unfold min2; rw [em]; simp only []; rw [br_one w hp, hb]
      have hca : ¬ t.2 11 = f 7 + 1 := fun e => by rw [hT] at e; have := congrArg Z e; rw [z71] at this; omega
      obtain ⟨⟨m, m7, hm1⟩, ⟨x, x6, hm2⟩, _⟩ := tm
      have hzn : Z (t.2 6 + stp_ t) = m := by rw [hm1]; exact Z_I (by omega)
      have hnx0 : 0 ≤ Z (t.2 6 + stp_ t) ∧ Z (t.2 6 + stp_ t) < n := by
        rw [t1]
        split at b1
        · next c => rw [if_pos c]; omega
        · next c => rw [if_neg c]; omega
      have hne6 : ¬ t.2 6 = I m := fun e => by
        rw [← hm1] at e
        have := congrArg Z e
        rw [t1] at this
        split at this <;> omega
      have hgo : go1 (up f 7 (f 7 + 1)) tk rt S j = upS S j (4, up (up (up t.2 7 (imin (t.2 6 + stp_ t) (t.2 6))) 6 (t.2 6 + stp_ t)) 8 (rt (imin (t.2 6 + stp_ t) (t.2 6)).toNatClampNeg)) := by
        unfold go1
        rw [htr, hf7, if_pos ⟨c3, hca, h9⟩]
        unfold try1
        rw [htr, if_pos]
        refine ⟨?_, by rw [find_one hp, if_neg (fun q => by rw [c3] at q; cases q.1)]⟩
        refine Or.inr ?_
        rw [hm1]
        exact fre_one hp m7 ⟨ht m (by omega), (g4.2 m m7).2⟩ (by simp [occP, c3, hne6])
      have w2 : WS (go1 (up f 7 (f 7 + 1)) tk rt S j) := by
        rw [hgo]; exact WS_up w j (show 1 ≤ 4 ∧ 4 ≤ 4 by decide) (by simpa [up] using w.2.2.2.2 _ hmS)
      have eq : minQ tk rt (f, S) = (up f 7 (f 7 + 1), upS S j (4, up (up (up t.2 7 (imin (t.2 6 + stp_ t) (t.2 6))) 6 (t.2 6 + stp_ t)) 8 (rt (imin (t.2 6 + stp_ t) (t.2 6)).toNatClampNeg))) := by
        unfold minQ; rw [e2, em]; simp only []; rw [go_one w hp w2, hgo]
      have hp2 := prs_up1 w hp (u := (4, up (up (up t.2 7 (imin (t.2 6 + stp_ t) (t.2 6))) 6 (t.2 6 + stp_ t)) 8 (rt (imin (t.2 6 + stp_ t) (t.2 6)).toNatClampNeg))) (by show ¬ 4 = 1; decide)
      refine Or.inr ?_
      rw [eq] at G' ⊢
      refine ⟨G', j, _, hp2, by simpa [up] using h9, by simpa [up] using h1, fun h => (by cases h), fun h => (by cases h), Or.inr (Or.inr rfl), ?_⟩
      show Z pl = Z (up f 7 (f 7 + 1) 7) + rho (Z (up f 7 (f 7 + 1) 7)) rt (4, up (up (up t.2 7 (imin (t.2 6 + stp_ t) (t.2 6))) 6 (t.2 6 + stp_ t)) 8 (rt (imin (t.2 6 + stp_ t) (t.2 6)).toNatClampNeg))
      rw [hf7, z71]
      have hrr : rho (Z (f 7) + 1) rt (4, up (up (up t.2 7 (imin (t.2 6 + stp_ t) (t.2 6))) 6 (t.2 6 + stp_ t)) 8 (rt (imin (t.2 6 + stp_ t) (t.2 6)).toNatClampNeg)) = Z (rt (imin (t.2 6 + stp_ t) (t.2 6)).toNatClampNeg) + WW rt (Z (t.2 6 + stp_ t)) (Z (t.2 3)) := by simp [rho, up]
      have hx0 : 0 ≤ Z (imin (t.2 6 + stp_ t) (t.2 6)) := by rw [hm2, Z_I (by omega)]; omega
      have hxn := Z_nat hx0
      have hst : WW rt (Z (t.2 6)) (Z (t.2 3)) = Z (rt (imin (t.2 6 + stp_ t) (t.2 6)).toNatClampNeg) + 1 + WW rt (Z (t.2 6 + stp_ t)) (Z (t.2 3)) := by
        split at b1
        · next c =>
          rw [if_pos c] at t1 t2
          rw [t1, WW_step (by omega) b1.2, show (imin (t.2 6 + stp_ t) (t.2 6)).toNatClampNeg = (Z (t.2 6)).toNat by omega]
        · next c =>
          rw [if_neg c] at t1 t2
          rw [t1, WW_stepd (by omega) b1.1, show (imin (t.2 6 + stp_ t) (t.2 6)).toNatClampNeg = (Z (t.2 6) - 1).toNat by omega]
      rw [hrr]; omega
    · have c4 : t.1 = 4 := by omega
      obtain ⟨b1, b2, b3⟩ := a10 c4
      have hsec := TI_sec hTI c4
      have hsn := Z_nat hsec.1
      have hse := Z_of hsec.1
      have hk0 : (t.2 7).toNatClampNeg + 1 < n := by omega
      have hrho : rho (Z (f 7)) rt t = Z (t.2 8) + WW rt (Z (t.2 6)) (Z (t.2 3)) := by unfold rho; rw [if_neg c2, if_neg c3]
      rw [hrho] at hr
      have hfind : S.find? (holP (I (t.2 7).toNatClampNeg)) = some (j, t) := by rw [find_one hp, if_pos ⟨c4, hse⟩]
      have hbef : ∀ i, 0 ≤ i → i < (t.2 7).toNatClampNeg → S.find? (holP (I i)) = none := by
        intro i _ hi
        rw [find_one hp, if_neg]
        intro q
        have := congrArg Z q.2
        rw [Z_I (by omega)] at this; omega
      have hsub : Z (t.2 8 - 1) = Z (t.2 8) - 1 := by rw [Z_sub (by rw [Z_1]; omega) (by rw [Z_1]; omega), Z_1]
      have at_ : ∀ q', mv1 (I (t.2 7).toNatClampNeg) (up f 7 (f 7 + 1), S) = q' → (∀ i, (t.2 7).toNatClampNeg < i → i < 0 + (n - 1) → q'.2.find? (holP (I i)) = none) → min1 tk rt (f, S) = q' := by
        intro q' e h
        rw [e1, ← e]
        exact mvN_at (n - 1) 0 _ (by omega) (by omega) hbef (fun i i1 i2 => by rw [e]; exact h i i1 i2)
      by_cases c5 : 0 < t.2 8 - 1
      · have em1 : mv1 (I (t.2 7).toNatClampNeg) (up f 7 (f 7 + 1), S) = (up f 7 (f 7 + 1), upS S j (t.1, up t.2 8 (t.2 8 - 1))) := by
          unfold mv1; simp only [hfind, c5, if_true]
        have hp2 := prs_up1 w hp (u := (t.1, up t.2 8 (t.2 8 - 1))) (by show ¬ t.1 = 1; rw [c4]; decide)
        have w2 : WS (upS S j (t.1, up t.2 8 (t.2 8 - 1))) := WS_up w j (w.2.2.1 _ hmS) (by simpa [up] using w.2.2.2.2 _ hmS)
        have em := at_ _ em1 (fun i i1 i2 => by
          simp only []
          rw [find_one hp2, if_neg]
          intro q
          have h2 : up t.2 8 (t.2 8 - 1) 7 = I i := q.2
          rw [up_ne _ _ (by decide)] at h2
          have := congrArg Z h2
          rw [Z_I (by omega)] at this; omega)
        have hb : br1 (up f 7 (f 7 + 1)) tk (upS S j (t.1, up t.2 8 (t.2 8 - 1))) j = upS S j (t.1, up t.2 8 (t.2 8 - 1)) := by
          unfold br1; rw [tr_up hh, if_neg (fun q => c2 q.1)]
        have eq := fin _ _ _ w2 em hp2 hb (fun h => absurd h c3)
        refine Or.inr ?_
        rw [eq] at G' ⊢
        refine ⟨G', j, _, hp2, by simpa [up] using h9, by simpa [up] using h1, fun h => absurd h c2, fun h => absurd h c3, hpl, ?_⟩
        show Z pl = Z (up f 7 (f 7 + 1) 7) + rho (Z (up f 7 (f 7 + 1) 7)) rt (t.1, up t.2 8 (t.2 8 - 1))
        rw [hf7, z71]
        have : rho (Z (f 7) + 1) rt (t.1, up t.2 8 (t.2 8 - 1)) = Z (t.2 8 - 1) + WW rt (Z (t.2 6)) (Z (t.2 3)) := by simp [rho, up, c4]
        rw [this, hsub]; omega
      · have hre : Z (t.2 8) = 1 := by rw [Z_lt, Z_0, hsub] at c5; omega
        have w1 : WS (upS S j (t.1, up t.2 8 (t.2 8 - 1))) := WS_up w j (w.2.2.1 _ hmS) (by simpa [up] using w.2.2.2.2 _ hmS)
        have em0 : mv1 (I (t.2 7).toNatClampNeg) (up f 7 (f 7 + 1), S) = arr1 (up f 7 (f 7 + 1)) (upS S j (t.1, up t.2 8 (t.2 8 - 1))) j := by
          unfold mv1; simp only [hfind, c5, if_false]
        have htr1 : tr (upS S j (t.1, up t.2 8 (t.2 8 - 1))) j = (t.1, up t.2 8 (t.2 8 - 1)) := tr_up hh _
        by_cases c6 : t.2 6 = t.2 3
        · have em1 : mv1 (I (t.2 7).toNatClampNeg) (up f 7 (f 7 + 1), S) = (finF (up f 7 (f 7 + 1)) (t.1, up t.2 8 (t.2 8 - 1)), remS (upS S j (t.1, up t.2 8 (t.2 8 - 1))) j) := by
            rw [em0]; unfold arr1; rw [htr1, if_pos (by simpa [up] using c6)]
          have hp1 := prs_up1 w hp (u := (t.1, up t.2 8 (t.2 8 - 1))) (by show ¬ t.1 = 1; rw [c4]; decide)
          have hp2 : prs (remS (upS S j (t.1, up t.2 8 (t.2 8 - 1))) j) = [] := by
            have := prs_rem (s := (j, (t.1, up t.2 8 (t.2 8 - 1)))) (D := []) (R := []) w1 (by rw [hp1]; rfl)
            simpa using this
          have w2 : WS (remS (upS S j (t.1, up t.2 8 (t.2 8 - 1))) j) := WS_rem w1 ((has_up _ _ _ _).mpr hh)
          have em := at_ _ em1 (fun i _ _ => find_nil hp2 _)
          have e2 : min2 tk rt (f, S) = remS (upS S j (t.1, up t.2 8 (t.2 8 - 1))) j := by unfold min2; rw [em]; simp only []; rw [br_nil w2 hp2]
          have eq : minQ tk rt (f, S) = (finF (up f 7 (f 7 + 1)) (t.1, up t.2 8 (t.2 8 - 1)), remS (upS S j (t.1, up t.2 8 (t.2 8 - 1))) j) := by
            unfold minQ; rw [e2, em, nx_empty hp2 none]; rfl
          refine Or.inl ?_
          rw [eq]
          refine ⟨hp2, ?_⟩
          show finF (up f 7 (f 7 + 1)) _ 7 = pl
          rw [finF_7, hf7, Z_eq, z71, hr, hre, c6, WW_self]; omega
        · have em1 : mv1 (I (t.2 7).toNatClampNeg) (up f 7 (f 7 + 1), S) = (up f 7 (f 7 + 1), upS S j (3, up (up (up t.2 8 (t.2 8 - 1)) 6 (t.2 6)) 11 (f 7 + 1))) := by
            rw [em0]; unfold arr1; rw [htr1, if_neg (by simpa [up] using c6), upS_upS]
            simp [up]
          have hp2 := prs_up1 w hp (u := (3, up (up (up t.2 8 (t.2 8 - 1)) 6 (t.2 6)) 11 (f 7 + 1))) (by show ¬ 3 = 1; decide)
          have w2 : WS (upS S j (3, up (up (up t.2 8 (t.2 8 - 1)) 6 (t.2 6)) 11 (f 7 + 1))) := WS_up w j (show 1 ≤ 3 ∧ 3 ≤ 4 by decide) (by simpa [up] using w.2.2.2.2 _ hmS)
          have em := at_ _ em1 (fun i _ _ => by
            simp only []
            rw [find_one hp2, if_neg]
            intro q; cases q.1)
          have hb : br1 (up f 7 (f 7 + 1)) tk (upS S j (3, up (up (up t.2 8 (t.2 8 - 1)) 6 (t.2 6)) 11 (f 7 + 1))) j = upS S j (3, up (up (up t.2 8 (t.2 8 - 1)) 6 (t.2 6)) 11 (f 7 + 1)) := by
            unfold br1; rw [tr_up hh, if_neg (fun q => by cases q.1)]
          have eq := fin _ _ _ w2 em hp2 hb (fun _ => by simp [up])
          refine Or.inr ?_
          rw [eq] at G' ⊢
          refine ⟨G', j, _, hp2, by simpa [up] using h9, by simpa [up] using h1, fun h => (by cases h), fun _ => by simp [up], Or.inr (Or.inl rfl), ?_⟩
          show Z pl = Z (up f 7 (f 7 + 1) 7) + rho (Z (up f 7 (f 7 + 1) 7)) rt (3, up (up (up t.2 8 (t.2 8 - 1)) 6 (t.2 6)) 11 (f 7 + 1))
          rw [hf7, z71]
          have : rho (Z (f 7) + 1) rt (3, up (up (up t.2 8 (t.2 8 - 1)) 6 (t.2 6)) 11 (f 7 + 1)) = WW rt (Z (t.2 6)) (Z (t.2 3)) := by simp [rho, up]
          rw [this]; omega
theorem mvN_7 : ∀ (c k : Nat) (q : LQ), (mvN k c q).1 7 = q.1 7
  | 0, _, _ => rfl
  | c + 1, k, q => by
    rw [mvN, mvN_7 c]
    unfold mv1
    cases q.2.find? (holP (I k)) with
    | none => rfl
    | some s =>
      simp only []
      split
      · rfl
      · unfold arr1
        split
        · exact finF_7 _ _
        · rfl
theorem min_7 (tk rt : Nat → Int32) (q : LQ) : (minQ tk rt q).1 7 = q.1 7 + 1 := by
  unfold minQ min1
  rw [mvN_7]; exact up_eq (q.1) 7 (q.1 7 + 1)
theorem alo_pu {n : Nat} {tk rt : Nat → Int32} {v pl : Int32} (ht : TKP n tk) : ∀ (c : Nat) (X : Int) (q : LQ), X + c ≤ 31100 → ALO n X tk rt v pl q → Z pl - Z (q.1 7) ≤ c → (puA tk rt v c q).1 = pl
  | 0, X, q, _, A, h => by
    exfalso
    obtain ⟨G, j, t, hp, h9, h1, hE, hS, hpl, hr⟩ := A
    have hm : (j, t) ∈ prs q.2 := by rw [hp]; simp
    obtain ⟨a1, a2, a3, a4, a5, a6, a7, a8, a9, a10⟩ := G.2.2.2.2.2.1 (j, t) hm
    have g4 := G.2.2.2.1
    simp only [] at *
    rcases hpl with c | c | c
    · have := WW_pos g4.1 a1 a2 a3
      have := hE c
      unfold rho at hr; rw [if_pos c] at hr; push_cast at h; omega
    · obtain ⟨b1, _⟩ := a9 c
      have : 2 ≤ WW rt (Z (t.2 6)) (Z (t.2 3)) := WW_pos g4.1 (by split at b1 <;> omega) a2 (by split at b1 <;> omega)
      unfold rho at hr; rw [if_neg (by omega), if_pos c] at hr; push_cast at h; omega
    · obtain ⟨b1, b2, _⟩ := a10 c
      have : 0 ≤ WW rt (Z (t.2 6)) (Z (t.2 3)) := by
        by_cases e : Z (t.2 6) = Z (t.2 3)
        · rw [e, WW_self]; exact Int.le_refl _
        · have := WW_pos g4.1 (x := Z (t.2 6)) (by split at b1 <;> omega) a2 e
          omega
      unfold rho at hr; rw [if_neg (by omega), if_neg (by omega)] at hr; push_cast at h; omega
  | c + 1, X, q, hX, A, h => by
    push_cast at hX h
    rcases alo_min (by omega) ht A with ⟨hp, h7⟩ | A'
    · have hf : (minQ tk rt q).2.find? (fndP v) = none := by rw [← find_prs (fnd_pr v), hp]; rfl
      unfold puA; rw [if_pos hf]; exact h7
    · have hf : ¬ (minQ tk rt q).2.find? (fndP v) = none := by
        obtain ⟨G, j, t, hp, h9, h1, hE, hS, hpl, hr⟩ := A'
        rw [← find_prs (fnd_pr v), hp, List.find?_cons]
        have : fndP v (j, t) = true := by
          have : t.1 ≠ 1 := by omega
          simp [fndP, h1, this]
        rw [this]; simp
      unfold puA; rw [if_neg hf]
      refine alo_pu ht c (X + 1) _ (by omega) A' ?_
      have hT : Z ((minQ tk rt q).1 7) = Z (q.1 7) + 1 := by
        have g5 := A.1.2.2.2.2.1
        rw [min_7, Z_add (by rw [Z_1]; omega) (by rw [Z_1]; omega), Z_1]
      omega
theorem prs_alo (v : Int32) (S : List SL) : prs (S.map (alo1 v)) = ((prs S).filter (numP v)).map (alo1 v) := by
  induction S with
  | nil => rfl
  | cons s S ih =>
    unfold prs at ih ⊢
    rw [List.map_cons, List.filter_cons, List.filter_cons]
    by_cases e1 : s.2.1 = 1
    · have : (alo1 v s).2.1 = 1 := by unfold alo1; split <;> simp [e1]
      rw [if_neg (by simp [this]), if_neg (by simp [e1]), ih]
    · by_cases e2 : s.2.2 1 = v
      · have : (alo1 v s).2.1 = s.2.1 := by unfold alo1; rw [if_pos e2]
        rw [if_pos (by simp [this, e1]), if_pos (by simp [e1]), List.filter_cons, if_pos (by simp [numP, e2]), List.map_cons, ih]
      · have : (alo1 v s).2.1 = 1 := by unfold alo1; rw [if_neg e2]
        rw [if_neg (by simp [this]), if_pos (by simp [e1]), List.filter_cons, if_neg (by simp [numP, e2]), ih]
theorem filt_one {P : List SL} (hs : SRT P) {s : SL} (hm : s ∈ P) : P.filter (numP (s.2.2 1)) = [s] := by
  obtain ⟨D, R, hP⟩ := mem_split hm
  obtain ⟨a, b⟩ := hs D s R hP
  rw [hP, List.filter_append, List.filter_cons, if_pos (by simp [numP])]
  rw [List.filter_eq_nil_iff.mpr (fun o ho => by
    have := a o ho
    simp only [numP, decide_eq_true_eq]
    intro e; rw [e] at this; exact nlt_self _ this), List.filter_eq_nil_iff.mpr (fun o ho => by
    have := b o ho
    simp only [numP, decide_eq_true_eq]
    intro e; rw [e] at this; exact nlt_self _ this)]
  rfl
/-- the line with one train alone is a line -/
theorem alo_start {n : Nat} {X : Int} {tk rt f : Nat → Int32} {S : List SL} (G : GI n X ((n - 1 : Nat) : Int) tk rt (f, S)) {s : SL} (hs : s ∈ prs S) (h2 : s.2.1 = 2) (hT : f 7 < s.2.2 4) : ALO n X tk rt (s.2.2 1) (s.2.2 5) (up f 5 1, S.map (alo1 (s.2.2 1))) := by
  obtain ⟨w, g2, g3, g4, g5, g6, g7, g8, g9, g10⟩ := G
  simp only [] at *
  have ea : alo1 (s.2.2 1) s = (s.1, (s.2.1, up s.2.2 9 0)) := by unfold alo1; rw [if_pos rfl]
  have hp : prs (S.map (alo1 (s.2.2 1))) = [(s.1, (s.2.1, up s.2.2 9 0))] := by
    rw [prs_alo, filt_one g7 hs]; simp [ea]
  have hTI := g6 s hs
  obtain ⟨a1, a2, a3, a4, a5, a6, a7, a8, a9, a10⟩ := id hTI
  have hlen : 1 ≤ (prs S).length := by
    cases hq : prs S with
    | nil => rw [hq] at hs; cases hs
    | cons _ _ => simp
  refine ⟨⟨WS_alo w _, by simpa [up] using g2, ?_, g4, by simpa [up] using g5, fun o ho => ?_, ?_, fun o ho b hb _ _ _ => ?_, fun k hk => ?_, ?_⟩, s.1, _, hp, by simp [up], by simp [up], fun _ => ?_, fun h => ?_, Or.inl h2, ?_⟩
  · simp only [up_eq, hp]; rfl
  · simp only [hp] at ho
    have : o = (s.1, (s.2.1, up s.2.2 9 0)) := by simpa using ho
    subst this
    simp only [up_ne _ _ (show 7 ≠ 5 by decide), up_ne _ _ (show 6 ≠ 5 by decide)]
    exact TI_of hTI (fun i hi => by rcases hi with rfl | rfl | rfl | rfl | rfl <;> simp [up]) trivial (by simpa [up] using a8) (fun h => by simp only [h2] at h; cases h) (fun h => by simp only [h2] at h; cases h)
  · simp only [hp]; exact srt_one _ _
  · simp only [hp] at ho hb
    have e1 : o = (s.1, (s.2.1, up s.2.2 9 0)) := by simpa using ho
    have e2 : b = (s.1, (s.2.1, up s.2.2 9 0)) := by simpa using hb
    rw [e1, e2]
  · simp only [hp]
    have : occP (I k) (s.1, ((s.2.1, up s.2.2 9 0) : TR)) = false := by simp [occP, h2]
    rw [List.countP_singleton, this]
    have := g4.2 k (by omega)
    simpa using this.1
  · simp only [hp, TT, up_ne _ _ (show 8 ≠ 5 by decide), up_ne _ _ (show 6 ≠ 5 by decide), up_ne _ _ (show 10 ≠ 5 by decide), up_ne _ _ (show 11 ≠ 5 by decide), up_ne _ _ (show 12 ≠ 5 by decide)]
    obtain ⟨b1, b2, b3⟩ := g10
    exact ⟨b1, by simp; omega, b3⟩
  · simp only [up_ne _ _ (show 7 ≠ 5 by decide), up_ne _ _ (show 4 ≠ 9 by decide)]; exact Z_lt.mp hT
  · simp only [h2] at h; cases h
  · simp only [up_ne _ _ (show 7 ≠ 5 by decide)]
    have hpz : Z (s.2.2 5) = Z (s.2.2 4) + WW rt (Z (s.2.2 2)) (Z (s.2.2 3)) := by
      rw [a4]; exact plan_Z g2.2 g4.1 a1 a2 (by omega)
    have : rho (Z (f 7)) rt (s.2.1, up s.2.2 9 0) = Z (s.2.2 4) - Z (f 7) + WW rt (Z (s.2.2 2)) (Z (s.2.2 3)) := by simp [rho, up, h2]
    rw [this, hpz]; omega
theorem alo_all {n : Nat} {X : Int} {tk rt f : Nat → Int32} {S : List SL} (hX : X + 300 ≤ 31100) (ht : TKP n tk) (G : GI n X ((n - 1 : Nat) : Int) tk rt (f, S)) {s : SL} (hs : s ∈ prs S) (h2 : s.2.1 = 2) (hT : f 7 < s.2.2 4) : minKN tk rt 300 (up f 5 1, S.map (alo1 (s.2.2 1))) ∧ (puA tk rt (s.2.2 1) 300 (up f 5 1, S.map (alo1 (s.2.2 1)))).1 = s.2.2 5 := by
  have A := alo_start G hs h2 hT
  obtain ⟨_, k1, _⟩ := minN_GI 300 X _ (by omega) A.1
  refine ⟨k1, alo_pu ht 300 X _ (by omega) A ?_⟩
  obtain ⟨a1, a2, a3, a4, a5, a6, a7, a8, a9, a10⟩ := G.2.2.2.2.2.1 s hs
  have g4 := G.2.2.2.1
  have g2 := G.2.1
  simp only [] at *
  have hpz : Z (s.2.2 5) = Z (s.2.2 4) + WW rt (Z (s.2.2 2)) (Z (s.2.2 3)) := by
    rw [a4]; exact plan_Z g2.2 g4.1 a1 a2 (by have := G.2.2.2.2.1; simp only [] at this; omega)
  have hw : WW rt (Z (s.2.2 2)) (Z (s.2.2 3)) ≤ 31 * 6 := by
    unfold WW
    split
    · have := pre_le g4.1 (Z (s.2.2 3)).toNat (Z (s.2.2 2)).toNat (by omega) (by omega); omega
    · have := pre_le g4.1 (Z (s.2.2 2)).toNat (Z (s.2.2 3)).toNat (by omega) (by omega); omega
  rw [up_ne _ _ (by decide), hpz]
  have e3 : ((300 : Nat) : Int) = 300 := rfl
  omega
