/-! a whole minute keeps the invariant, and both sides can walk it -/
theorem nx_mem {pv : Option TR} {S : List SL} {q : SL} (e : nxS pv S = some q) : q ∈ prs S := by
  rw [nxS_prs] at e
  obtain ⟨_, i2⟩ := fold_nx pv (prs S) none (fun s h => (prs_mem h).2) (fun q e => by cases e)
  obtain ⟨_, j2, _⟩ := i2 q e
  exact j2.elim id (fun z => by cases z)
theorem tick_GI {n : Nat} {X : Int} {tk rt f : Nat → Int32} {S : List SL} (hX : X + 1 ≤ 31100) (G : GI n X ((n - 1 : Nat) : Int) tk rt (f, S)) : GI n (X + 1) ((0 : Nat) : Int) tk rt (up f 7 (f 7 + 1), S) := by
  obtain ⟨w, g2, g3, g4, g5, g6, g7, g8, g9, g10⟩ := G
  simp only [] at *
  have hz : Z (f 7 + 1) = Z (f 7) + 1 := by rw [Z_add (by rw [Z_1]; omega) (by rw [Z_1]; omega), Z_1]
  refine ⟨w, by simpa [up] using g2, by simpa [up] using g3, g4, ?_, ?_, g7, g8, g9, ?_⟩
  · simp only [up_eq, hz]; omega
  · intro s hs
    simp only [up_eq, up_ne _ _ (show 6 ≠ 7 by decide), hz]
    obtain ⟨a1, a2, a3, a4, a5, a6, a7, a8, a9, a10⟩ := g6 s hs
    refine ⟨a1, a2, a3, a4, by omega, a6, a7, by omega, a9, fun h4 => ?_⟩
    obtain ⟨b1, b2, b3⟩ := a10 h4
    refine ⟨b1, b2, ?_⟩
    split <;> omega
  · simpa [TT, up] using g10
theorem mvN_GI {n : Nat} {X : Int} {tk rt : Nat → Int32} : ∀ (c k : Nat) (q : LQ), k + c = n - 1 → GI n X (k : Int) tk rt q → GI n X ((n - 1 : Nat) : Int) tk rt (mvN k c q) ∧ mvKN k c q ∧ mvMN rt k c q
  | 0, k, q, h, G => by
    have : k = n - 1 := by omega
    subst this
    exact ⟨G, trivial, trivial⟩
  | c + 1, k, q, h, G => by
    obtain ⟨G1, k1, m1⟩ := mv_GI (k := k) (by omega) G
    obtain ⟨G2, k2, m2⟩ := mvN_GI c (k + 1) (mv1 (I k) q) (by omega) G1
    exact ⟨G2, ⟨k1, k2⟩, ⟨G.1, m1⟩, m2⟩
theorem goKN_GI {n : Nat} {X : Int} {tk rt f : Nat → Int32} : ∀ (c : Nat) (o : Option SL) (S : List SL), GI n X ((n - 1 : Nat) : Int) tk rt (f, S) → (∀ s, o = some s → s ∈ prs S) → goKN f tk rt n c o S
  | 0, _, _, _, _ => trivial
  | _ + 1, none, _, _, _ => trivial
  | c + 1, some s, S, G, ho => by
    have hs := ho s rfl
    have hsS := (prs_mem hs).1
    obtain ⟨D2, R2, h2⟩ := mem_split hsS
    have ht := tr_mid G.1.2.1 h2
    have hh := has_mid G.1.2.1 h2
    have G1 := go_GI G hs
    refine ⟨⟨G.1, hh, fun h3 => ?_⟩, G1.1, goKN_GI c _ _ G1 (fun q e => nx_mem e)⟩
    simp only [] at ht
    rw [ht] at h3 ⊢
    exact (TI_try G.2.1.2 (G.2.2.2.2.2.1 s hs) h3).2.2.1
theorem DPK_GI {n : Nat} {X l : Int} {tk rt : Nat → Int32} {q : LQ} (G : GI n X l tk rt q) : DPK (prs q.2) := by
  intro s hs o ho
  have a5 := (G.2.2.2.2.2.1 s hs).2.2.2.2.1
  have b5 := (G.2.2.2.2.2.1 o ho).2.2.2.2.1
  have := G.2.2.2.2.1
  rw [Z_lt, Z_lt, Z_sub (by omega) (by omega), Z_0]
  exact propext (by omega)
theorem gmK_GI {n : Nat} {X : Int} {tk rt f : Nat → Int32} : ∀ (c k : Nat) (S : List SL), GI n X ((n - 1 : Nat) : Int) tk rt (f, S) → c + k ≤ (prs S).length → gmK f tk rt c k S
  | 0, _, _, _, _ => trivial
  | c + 1, k, S, G, hl => by
    have hs : SRT (prs S) := G.2.2.2.2.2.2.1
    obtain ⟨s, h1, h2⟩ := rk_ex hs k (by omega)
    obtain ⟨D, R, hP⟩ := mem_split h1
    obtain ⟨t, g1, _⟩ := go_prs2 (f := f) (tk := tk) (rt := rt) G.1 hP
    refine ⟨G.1, (GI_brK G).2.2.1, hs, DPK_GI G, s, vis_of hs h1 h2, fun h3 => ?_, gmK_GI c (k + 1) _ (go_GI G h1) ?_⟩
    · exact (TI_try G.2.1.2 (G.2.2.2.2.2.1 s h1) h3).2.2.2
    · have : (prs (go1 f tk rt S s.1)).length = (prs S).length := by rw [g1, hP]; simp
      omega
theorem goN_GI {n : Nat} {X : Int} {tk rt f : Nat → Int32} : ∀ (c : Nat) (o : Option SL) (S : List SL), GI n X ((n - 1 : Nat) : Int) tk rt (f, S) → (∀ s, o = some s → s ∈ prs S) → GI n X ((n - 1 : Nat) : Int) tk rt (f, goN f tk rt c o S)
  | 0, _, _, G, _ => G
  | _ + 1, none, _, G, _ => G
  | c + 1, some s, S, G, ho => goN_GI c _ _ (go_GI G (ho s rfl)) (fun q e => nx_mem e)
theorem NUM_SRT {P : List SL} (hs : SRT P) : NUM P := by
  unfold NUM
  induction P with
  | nil => exact List.nodup_nil
  | cons a P ih =>
    rw [List.map_cons, List.nodup_cons]
    refine ⟨fun h => ?_, ih fun D s R e => ?_⟩
    · obtain ⟨b, hb, e⟩ := List.mem_map.mp h
      have := (hs [] a P rfl).2 b hb
      rw [e] at this; exact nlt_self _ this
    · have := hs (a :: D) s R (by rw [e]; rfl)
      exact ⟨fun o ho => this.1 o (List.mem_cons_of_mem _ ho), this.2⟩
theorem minute_GI {n : Nat} {X : Int} {tk rt : Nat → Int32} {q : LQ} (hX : X + 1 ≤ 31100) (G : GI n X ((n - 1 : Nat) : Int) tk rt q) : GI n (X + 1) ((n - 1 : Nat) : Int) tk rt (minQ tk rt q) ∧ minK tk rt q ∧ mnK tk rt q := by
  obtain ⟨f, S⟩ := q
  have h0 := G.2.1.1
  have h7 := G.2.1.2
  simp only [] at h0
  have G1 := tick_GI hX G
  obtain ⟨G2, k2, m2⟩ := mvN_GI (n - 1) 0 (up f 7 (f 7 + 1), S) (by omega) G1
  have e1 : min1 tk rt (f, S) = mvN 0 (n - 1) (up f 7 (f 7 + 1), S) := by unfold min1; simp only [h0, I_nat7 h7]
  rw [← e1] at G2
  have G3 : GI n (X + 1) ((n - 1 : Nat) : Int) tk rt ((min1 tk rt (f, S)).1, min2 tk rt (f, S)) := by
    unfold min2
    refine br_GI_all _ _ G2 (fun j hj => ?_)
    obtain ⟨s, hs, rfl⟩ := List.mem_map.mp hj
    obtain ⟨D, R, hS⟩ := mem_split hs
    exact has_mid G2.1.2.1 hS
  have G4 : GI n (X + 1) ((n - 1 : Nat) : Int) tk rt (minQ tk rt (f, S)) := by
    unfold minQ
    exact goN_GI 6 _ _ G3 (fun q e => nx_mem e)
  have gk := goKN_GI 6 (nxS none (min2 tk rt (f, S))) _ G3 (fun q e => nx_mem e)
  refine ⟨G4, ⟨n, h0, h7, k2, (GI_brK G2).1, G3.1, ?_, G4.1⟩, n, h0, h7, NUM_SRT G.2.2.2.2.2.2.1, fun s hs e => ?_, m2, (GI_brK G2).2, gmK_GI _ 0 _ G3 (by omega), ?_⟩
  · by_cases c : 1 ≤ n
    · exact Or.inl ⟨c, gk⟩
    · refine Or.inr ?_
      have : prs (min2 tk rt (f, S)) = [] := by
        cases hp : prs (min2 tk rt (f, S)) with
        | nil => rfl
        | cons s l =>
          have := (G3.2.2.2.2.2.1 s (by simp only [hp]; exact List.mem_cons_self)).1
          omega
      exact nx_empty this none
  · have a8 := (G.2.2.2.2.2.1 s hs).2.2.2.2.2.2.2.1
    simp only [] at a8 e
    have hT := G.2.2.2.2.1
    simp only [] at hT
    have hz : Z (f 7 + 1) = Z (f 7) + 1 := by rw [Z_add (by rw [Z_1]; omega) (by rw [Z_1]; omega), Z_1]
    rw [e, hz] at a8; omega
  · exact go_gm0 (fun T => GI n (X + 1) ((n - 1 : Nat) : Int) tk rt ((min1 tk rt (f, S)).1, T)) (fun T g => ⟨g.1, g.2.2.2.2.2.2.1⟩) (fun T s g hs => go_GI g hs) G3 (GI_len G3)
theorem minN_GI {n : Nat} {tk rt : Nat → Int32} : ∀ (c : Nat) (X : Int) (q : LQ), X + c ≤ 31100 → GI n X ((n - 1 : Nat) : Int) tk rt q → GI n (X + c) ((n - 1 : Nat) : Int) tk rt (minN tk rt c q) ∧ minKN tk rt c q ∧ mnKN tk rt c q
  | 0, X, q, _, G => ⟨by rw [show X + ((0 : Nat) : Int) = X by simp]; exact G, trivial, trivial⟩
  | c + 1, X, q, h, G => by
    obtain ⟨G1, k1, m1⟩ := minute_GI (by push_cast at h; omega) G
    obtain ⟨G2, k2, m2⟩ := minN_GI c (X + 1) (minQ tk rt q) (by push_cast at h; omega) G1
    refine ⟨?_, ⟨k1, k2⟩, m1, m2⟩
    have : X + 1 + (c : Int) = X + ((c + 1 : Nat) : Int) := by push_cast; omega
    rw [← this]; exact G2
