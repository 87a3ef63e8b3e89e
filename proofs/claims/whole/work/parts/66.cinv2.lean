/-! the commands keep the invariant, part two -/
theorem NF_set {S D R : List SL} {s : SL} (w : WS S) (nf : NF S) (hP : prs S = D ++ s :: R) {t : TR} (ht : t.1 ≠ 1) : NF (upS S s.1 t) := by
  obtain ⟨Q, hS, hQ⟩ := nf
  refine ⟨Q, ?_, hQ⟩
  rw [prs_up w hP ht]
  have e : S = D ++ s :: (R ++ Q) := by rw [hS, hP]; simp
  have nd := w.2.1
  rw [e] at nd
  rw [e, upS_mid nd]; simp
theorem NF_rem {S D R : List SL} {s : SL} (w : WS S) (nf : NF S) (hP : prs S = D ++ s :: R) : NF (remS S s.1) := by
  obtain ⟨Q, hS, hQ⟩ := nf
  refine ⟨Q ++ [(s.1, (1, (tr S s.1).2))], ?_, fun o ho => ?_⟩
  · rw [prs_rem w hP]
    have e : S = D ++ s :: (R ++ Q) := by rw [hS, hP]; simp
    have nd := w.2.1
    rw [e] at nd
    obtain ⟨h1, h2⟩ := nd_split nd
    have ek : keepS S s.1 = D ++ (R ++ Q) := by
      rw [e]; unfold keepS
      rw [List.filter_append, List.filter_cons]
      have e1 := keep_self h1
      have e2 := keep_self h2
      unfold keepS at e1 e2
      simp only [ne_eq, not_true_eq_false, decide_false, Bool.false_eq_true, if_false] at e1 e2 ⊢
      rw [e1, e2]
    unfold remS; rw [ek]; simp
  · rcases List.mem_append.mp ho with h | h
    · exact hQ o h
    · have : o = (s.1, (1, (tr S s.1).2)) := by simpa using h
      rw [this]
theorem WB_set {W W' : Int} {D R : List SL} {s : SL} {t : TR} (h : WB W (D ++ s :: R)) (hW : W ≤ W') (ht : 0 ≤ Z (t.2 10) ∧ Z (t.2 10) ≤ W') : WB W' (D ++ (s.1, t) :: R) := by
  intro o ho
  rcases mem_set ho with rfl | h2
  · exact ht
  · have := h o (mem_DR h2); omega
theorem WB_del {W : Int} {D R : List SL} {s : SL} (h : WB W (D ++ s :: R)) : WB W (D ++ R) := fun o ho => h o (mem_DR (List.mem_append.mp ho))
/-- in order, and the waits bounded -/
def NW (W : Int) (S : List SL) : Prop := NF S ∧ WB W (prs S)
theorem NW_mv {W : Int} {k : Int32} {q : LQ} (w : WS q.2) (h : NW W q.2) : NW W (mv1 k q).2 := by
  obtain ⟨f, S⟩ := q
  unfold mv1
  cases e : S.find? (holP k) with
  | none => simp only [e]; exact h
  | some s =>
    simp only [e]
    obtain ⟨k1, k2, k3, k4⟩ := find_has w.2.1 e
    have hpl : s.2.1 = 4 ∧ s.2.2 7 = k := by simpa [holP] using k4
    have hsp : s ∈ prs S := by unfold prs; rw [List.mem_filter]; exact ⟨k3, by simp [hpl.1]⟩
    obtain ⟨D, R, hP⟩ := mem_split hsp
    obtain ⟨nf, wb⟩ := h
    have hs10 := wb s hsp
    have ht1 : (s.2.1, up s.2.2 8 (s.2.2 8 - 1)).1 ≠ 1 := by show s.2.1 ≠ 1; rw [hpl.1]; decide
    have w' : WS (upS S s.1 (s.2.1, up s.2.2 8 (s.2.2 8 - 1))) := WS_up w s.1 (w.2.2.1 s k3) (by simpa [up] using w.2.2.2.2 s k3)
    have nf1 := NF_set w nf hP ht1
    have hpr := prs_up w hP ht1
    have wb1 : WB W (prs (upS S s.1 (s.2.1, up s.2.2 8 (s.2.2 8 - 1)))) := by
      rw [hpr]; rw [hP] at wb
      exact WB_set wb (Int.le_refl _) (by simpa [up] using hs10)
    split
    · exact ⟨nf1, wb1⟩
    · unfold arr1
      have ht : tr (upS S s.1 (s.2.1, up s.2.2 8 (s.2.2 8 - 1))) s.1 = (s.2.1, up s.2.2 8 (s.2.2 8 - 1)) := tr_up k1 _
      rw [ht]
      split
      · refine ⟨NF_rem (s := (s.1, (s.2.1, up s.2.2 8 (s.2.2 8 - 1)))) w' nf1 hpr, ?_⟩
        have e2 := prs_rem (s := (s.1, (s.2.1, up s.2.2 8 (s.2.2 8 - 1)))) w' hpr
        simp only [] at e2 ⊢
        rw [e2]; rw [hpr] at wb1
        exact WB_del wb1
      · simp only [upS_upS]
        have ht3 : ((3, up (up (up s.2.2 8 (s.2.2 8 - 1)) 6 (up s.2.2 8 (s.2.2 8 - 1) 6)) 11 (f 7)) : TR).1 ≠ 1 := by show ¬ 3 = 1; decide
        refine ⟨NF_set w nf hP ht3, ?_⟩
        rw [prs_up w hP ht3]; rw [hP] at wb
        exact WB_set wb (Int.le_refl _) (by simpa [up] using hs10)
theorem NW_mvN {W : Int} {n : Nat} {X : Int} {tk rt : Nat → Int32} : ∀ (c k : Nat) (q : LQ), k + c = n - 1 → GI n X (k : Int) tk rt q → NW W q.2 → NW W (mvN k c q).2
  | 0, _, _, _, _, h => h
  | c + 1, k, q, hk, G, h => NW_mvN c (k + 1) _ (by omega) (mv_GI (by omega) G).1 (NW_mv G.1 h)
theorem NW_br {W : Int} {f tk : Nat → Int32} {S : List SL} (w : WS S) (h : NW W S) (j : Nat) (hj : has S j) : NW W (br1 f tk S j) := by
  unfold br1
  split
  · next hc =>
    obtain ⟨D0, R0, hS⟩ := has_ex hj
    have hm : (j, tr S j) ∈ S := (congrArg (fun l => (j, tr S j) ∈ l) hS).mpr (List.mem_append_right _ List.mem_cons_self)
    have hp : (j, tr S j) ∈ prs S := by unfold prs; rw [List.mem_filter]; exact ⟨hm, by simp [hc.1]⟩
    obtain ⟨D, R, hP⟩ := mem_split hp
    obtain ⟨nf, wb⟩ := h
    have hs10 := wb _ hp
    have ht3 : ((3, up (up (tr S j).2 6 ((tr S j).2 2)) 11 (f 7)) : TR).1 ≠ 1 := by show ¬ 3 = 1; decide
    refine ⟨NF_set (s := (j, tr S j)) w nf hP ht3, ?_⟩
    have e2 := prs_up (s := (j, tr S j)) w hP ht3
    simp only [] at e2
    rw [e2]; rw [hP] at wb
    exact WB_set (s := (j, tr S j)) wb (Int.le_refl _) (by simpa [up] using hs10)
  · exact h
theorem NW_brN {W : Int} {n : Nat} {X l : Int} {tk rt f : Nat → Int32} : ∀ (J : List Nat) (S : List SL), GI n X l tk rt (f, S) → (∀ j, j ∈ J → has S j) → NW W S → NW W (J.foldl (br1 f tk) S)
  | [], _, _, _, h => h
  | j :: J, S, G, hh, h => by
    rw [List.foldl_cons]
    refine NW_brN J _ (br_GI G j (hh j List.mem_cons_self)) (fun i hi => ?_) (NW_br G.1 h j (hh j List.mem_cons_self))
    unfold br1
    split
    · exact (has_up _ _ _ _).mpr (hh i (List.mem_cons_of_mem _ hi))
    · exact hh i (List.mem_cons_of_mem _ hi)
theorem NW_go {W : Int} {f tk rt : Nat → Int32} {S : List SL} {s : SL} (w : WS S) (h : NW W S) (hW : 0 ≤ W ∧ W < 1000000000) (hs : s ∈ prs S) : NW (W + 1) (go1 f tk rt S s.1) := by
  obtain ⟨nf, wb⟩ := h
  have hs10 := wb s hs
  obtain ⟨hsS, hp1⟩ := prs_mem hs
  obtain ⟨D2, R2, h2⟩ := mem_split hsS
  have ht := tr_mid w.2.1 h2
  obtain ⟨D, R, hP⟩ := mem_split hs
  have hw10 : Z (s.2.2 10 + 1) = Z (s.2.2 10) + 1 := by rw [Z_add (by rw [Z_1]; omega) (by rw [Z_1]; omega), Z_1]
  unfold go1
  rw [ht]
  split
  · unfold try1
    rw [ht]
    split
    · refine ⟨NF_set w nf hP (by show ¬ 4 = 1; decide), ?_⟩
      rw [prs_up w hP (by show ¬ 4 = 1; decide)]; rw [hP] at wb
      refine WB_set wb (by omega) ?_
      simp [up]; omega
    · refine ⟨NF_set w nf hP (t := (s.2.1, up s.2.2 10 (s.2.2 10 + 1))) hp1, ?_⟩
      rw [prs_up w hP (t := (s.2.1, up s.2.2 10 (s.2.2 10 + 1))) hp1]; rw [hP] at wb
      refine WB_set wb (by omega) ?_
      simp only [up_eq, hw10]; omega
  · exact ⟨nf, fun o ho => by have := wb o ho; omega⟩
theorem NW_mono {W W' : Int} {S : List SL} (h : NW W S) (hW : W ≤ W') : NW W' S := ⟨h.1, fun o ho => by have := h.2 o ho; omega⟩
theorem NW_goN {n : Nat} {X : Int} {tk rt f : Nat → Int32} : ∀ (c : Nat) (W : Int) (o : Option SL) (S : List SL), GI n X ((n - 1 : Nat) : Int) tk rt (f, S) → (∀ s, o = some s → s ∈ prs S) → NW W S → 0 ≤ W → W + c < 1000000000 → NW (W + c) (goN f tk rt c o S)
  | 0, W, _, S, _, _, h, _, _ => NW_mono h (by omega)
  | c + 1, W, none, S, _, _, h, _, _ => NW_mono h (by push_cast; omega)
  | c + 1, W, some s, S, G, ho, h, h0, hb => by
    have hs := ho s rfl
    push_cast at hb
    have h1 := NW_go (f := f) (tk := tk) (rt := rt) G.1 h ⟨h0, by omega⟩ hs
    have h2 := NW_goN c (W + 1) (nxS (some (tr (go1 f tk rt S s.1) s.1)) (go1 f tk rt S s.1)) _ (go_GI G hs) (fun q e => nx_mem e) h1 (by omega) (by omega)
    exact NW_mono h2 (by push_cast; omega)
theorem NW_min {n : Nat} {X W : Int} {tk rt : Nat → Int32} {q : LQ} (hX : X + 1 ≤ 31100) (G : GI n X ((n - 1 : Nat) : Int) tk rt q) (h : NW W q.2) (hW : 0 ≤ W ∧ W < 1000000) : NW (W + 6) (minQ tk rt q).2 := by
  obtain ⟨f, S⟩ := q
  have h0 := G.2.1.1
  have h7 := G.2.1.2
  simp only [] at h0
  have G1 := tick_GI hX G
  obtain ⟨G2, _, _⟩ := mvN_GI (n - 1) 0 (up f 7 (f 7 + 1), S) (by omega) G1
  have n2 := NW_mvN (W := W) (n - 1) 0 (up f 7 (f 7 + 1), S) (by omega) G1 h
  have e1 : min1 tk rt (f, S) = mvN 0 (n - 1) (up f 7 (f 7 + 1), S) := by unfold min1; simp only [h0, I_nat7 h7]
  rw [← e1] at G2 n2
  have hh : ∀ j, j ∈ (min1 tk rt (f, S)).2.map Prod.fst → has (min1 tk rt (f, S)).2 j := fun j hj => by
    obtain ⟨s, hs, rfl⟩ := List.mem_map.mp hj
    obtain ⟨D, R, hS⟩ := mem_split hs
    exact has_mid G2.1.2.1 hS
  have G3 : GI n (X + 1) ((n - 1 : Nat) : Int) tk rt ((min1 tk rt (f, S)).1, min2 tk rt (f, S)) := br_GI_all _ _ G2 hh
  have n3 : NW W (min2 tk rt (f, S)) := NW_brN _ _ G2 hh n2
  exact NW_goN 6 W _ _ G3 (fun q e => nx_mem e) n3 hW.1 (by omega)
theorem NW_minN {n : Nat} {tk rt : Nat → Int32} : ∀ (c : Nat) (X : Int) (q : LQ), 0 ≤ X → X + c ≤ 31100 → GI n X ((n - 1 : Nat) : Int) tk rt q → NW (6 * X) q.2 → NW (6 * (X + c)) (minN tk rt c q).2
  | 0, X, q, _, _, _, h => NW_mono h (by omega)
  | c + 1, X, q, h0, hX, G, h => by
    push_cast at hX
    have h1 := NW_min (by omega) G h (by omega)
    have h2 := NW_minN c (X + 1) (minQ tk rt q) (by omega) (by omega) (minute_GI (by omega) G).1 (NW_mono h1 (by omega))
    exact NW_mono h2 (by push_cast; omega)
/-- the finished trains grow, the numbers stay -/
theorem mv_68 {k : Int32} {q : LQ} {m : Nat} (ht : TT q.1 m) (hb : Z (q.1 8) < 1000) : (mv1 k q).1 6 = q.1 6 ∧ Z (q.1 8) ≤ Z ((mv1 k q).1 8) := by
  obtain ⟨f, S⟩ := q
  have h8 : 0 ≤ Z (f 8) := ht.1
  simp only [] at hb
  unfold mv1
  cases e : S.find? (holP k) with
  | none => simp only [e]; exact ⟨trivial, Int.le_refl _⟩
  | some s =>
    simp only [e]
    split
    · exact ⟨rfl, Int.le_refl _⟩
    · unfold arr1
      split
      · refine ⟨finF_o (i := 6) _ _ (by decide) (by decide) (by decide) (by decide) (by decide) (by decide), ?_⟩
        have e8 : ∀ t, finF f t 8 = f 8 + 1 := by
          intro t
          unfold finF
          by_cases c : f 7 - t.2 5 = 0
          · rw [if_pos c]; simp [up]
          · rw [if_neg c]; simp [up]
        simp only [e8]
        rw [Z_add (by rw [Z_1]; omega) (by rw [Z_1]; omega), Z_1]; omega
      · exact ⟨rfl, Int.le_refl _⟩
theorem mvN_68 {n : Nat} {X : Int} {tk rt : Nat → Int32} : ∀ (c k : Nat) (q : LQ), k + c = n - 1 → GI n X (k : Int) tk rt q → (mvN k c q).1 6 = q.1 6 ∧ Z (q.1 8) ≤ Z ((mvN k c q).1 8)
  | 0, _, _, _, _ => ⟨rfl, Int.le_refl _⟩
  | c + 1, k, q, hk, G => by
    have ht := G.2.2.2.2.2.2.2.2.2
    have ht2 := ht
    obtain ⟨t1, t2, t3, _⟩ := ht2
    obtain ⟨a, b⟩ := mv_68 (k := I k) ht (by omega)
    obtain ⟨a', b'⟩ := mvN_68 c (k + 1) _ (by omega) (mv_GI (by omega) G).1
    rw [mvN]
    exact ⟨a'.trans a, Int.le_trans b b'⟩
theorem min_68 {n : Nat} {X : Int} {tk rt : Nat → Int32} {q : LQ} (hX : X + 1 ≤ 31100) (G : GI n X ((n - 1 : Nat) : Int) tk rt q) : (minQ tk rt q).1 6 = q.1 6 ∧ Z (q.1 8) ≤ Z ((minQ tk rt q).1 8) := by
  obtain ⟨f, S⟩ := q
  have h0 := G.2.1.1
  simp only [] at h0
  have h := mvN_68 (n - 1) 0 (up f 7 (f 7 + 1), S) (by omega) (tick_GI hX G)
  have e1 : min1 tk rt (f, S) = mvN 0 (n - 1) (up f 7 (f 7 + 1), S) := by unfold min1; simp only [h0, I_nat7 G.2.1.2]
  unfold minQ
  rw [e1]
  simpa [up] using h
theorem minN_68 {n : Nat} {tk rt : Nat → Int32} : ∀ (c : Nat) (X : Int) (q : LQ), X + c ≤ 31100 → GI n X ((n - 1 : Nat) : Int) tk rt q → (minN tk rt c q).1 6 = q.1 6 ∧ Z (q.1 8) ≤ Z ((minN tk rt c q).1 8)
  | 0, _, _, _, _ => ⟨rfl, Int.le_refl _⟩
  | c + 1, X, q, hX, G => by
    push_cast at hX
    obtain ⟨a, b⟩ := min_68 (by omega) G
    obtain ⟨a', b'⟩ := minN_68 c (X + 1) _ (by omega) (minute_GI (by omega) G).1
    rw [minN]
    exact ⟨a'.trans a, Int.le_trans b b'⟩
