/-! the order of leaving: the class's and the reference's -/
theorem lt_tr {x y z : Int32} (h1 : x < y) (h2 : y < z) : x < z := by rw [Int32.lt_iff_toInt_lt] at *; omega
theorem lt_as {x y : Int32} (h1 : x < y) : ¬ y < x := by rw [Int32.lt_iff_toInt_lt] at *; omega
theorem lt_tot {x y : Int32} (h : x ≠ y) : x < y ∨ y < x := by
  have : x.toInt ≠ y.toInt := fun e => h (Int32.toInt_inj.mp e)
  rw [Int32.lt_iff_toInt_lt, Int32.lt_iff_toInt_lt]; omega
theorem lv_irr (t : TR) : lvB t t = false := by unfold lvB; simp [nlt_self]
theorem lv_iff (t u : TR) : lvB t u = true ↔ t.2 4 < u.2 4 ∨ (t.2 4 = u.2 4 ∧ t.2 1 < u.2 1) := by
  unfold lvB
  by_cases e : t.2 4 = u.2 4
  · simp [e, nlt_self]
  · simp [e]
theorem lv_tr {t u v : TR} (h1 : lvB t u = true) (h2 : lvB u v = true) : lvB t v = true := by
  rw [lv_iff] at *
  rcases h1 with a | ⟨a, b⟩ <;> rcases h2 with c | ⟨c, d⟩
  · exact Or.inl (lt_tr a c)
  · exact Or.inl (c ▸ a)
  · exact Or.inl (a ▸ c)
  · exact Or.inr ⟨a.trans c, lt_tr b d⟩
theorem lv_tot {t u : TR} (h : t.2 1 ≠ u.2 1) : lvB t u = true ∨ lvB u t = true := by
  rw [lv_iff, lv_iff]
  by_cases e : t.2 4 = u.2 4
  · exact (lt_tot h).imp (fun q => Or.inr ⟨e, q⟩) (fun q => Or.inr ⟨e.symm, q⟩)
  · exact (lt_tot e).imp Or.inl Or.inl
theorem lv_as {t u : TR} (h : lvB t u = true) : lvB u t = false := by
  cases e : lvB u t with
  | false => rfl
  | true => have := lv_tr h e; rw [lv_irr] at this; cases this
theorem srt_eq {P : List SL} (hs : SRT P) {s q : SL} (h1 : s ∈ P) (h2 : q ∈ P) (e : s.2.2 1 = q.2.2 1) : s = q := by
  obtain ⟨D, R, hP⟩ := mem_split h1
  obtain ⟨a, b⟩ := hs D s R hP
  rw [hP] at h2
  rcases List.mem_append.mp h2 with h | h
  · have := a q h; rw [e] at this; exact absurd this (nlt_self _)
  · rcases List.mem_cons.mp h with h | h
    · exact h.symm
    · have := b q h; rw [e] at this; exact absurd this (nlt_self _)
/-- the candidates after pv -/
def cand (pv : Option TR) (s : SL) : Bool := match pv with
  | none => true
  | some t => lvB t s.2
def lesO (a : Option SL) (s : SL) : Bool := match a with
  | none => true
  | some q => lvB s.2 q.2
theorem nx_pres (pv : Option TR) (a : Option SL) {s : SL} (h : s.2.1 ≠ 1) : nx1 pv a s = if cand pv s = true ∧ lesO a s = true then some s else a := by
  unfold nx1 cand lesO
  cases pv <;> cases a <;> simp [h]
theorem nxS_prs (pv : Option TR) (S : List SL) : nxS pv S = (prs S).foldl (nx1 pv) none := by
  unfold nxS
  have : ∀ (l : List SL) (a : Option SL), l.foldl (nx1 pv) a = (prs l).foldl (nx1 pv) a := by
    intro l
    induction l with
    | nil => intro a; rfl
    | cons s l ih =>
      intro a
      unfold prs at ih ⊢
      rw [List.foldl_cons, List.filter_cons]
      by_cases e : s.2.1 = 1
      · rw [if_neg (by simp [e]), ← ih]
        congr 1
        unfold nx1; rw [if_neg (fun q => q.1 e)]
      · rw [if_pos (by simp [e]), List.foldl_cons, ← ih]
  exact this S none
theorem fold_nx (pv : Option TR) : ∀ (l : List SL) (a : Option SL), (∀ s, s ∈ l → s.2.1 ≠ 1) → (∀ q, a = some q → cand pv q = true) →
    (l.foldl (nx1 pv) a = none → a = none ∧ ∀ s, s ∈ l → cand pv s = false) ∧
    ∀ q, l.foldl (nx1 pv) a = some q → cand pv q = true ∧ (q ∈ l ∨ a = some q) ∧ (∀ s, s ∈ l → cand pv s = true → lvB s.2 q.2 = false) ∧ ∀ s, a = some s → lvB s.2 q.2 = false
  | [], a, _, ha => by
    refine ⟨fun e => ⟨e, fun s hs => absurd hs List.not_mem_nil⟩, fun q e => ⟨ha q e, Or.inr e, fun s hs => absurd hs List.not_mem_nil, fun s hs => ?_⟩⟩
    rw [List.foldl_nil] at e
    rw [e] at hs
    cases hs
    exact lv_irr _
  | s :: l, a, hl, ha => by
    have hs1 := hl s List.mem_cons_self
    have hl' := fun t ht => hl t (List.mem_cons_of_mem _ ht)
    rw [List.foldl_cons, nx_pres pv a hs1]
    by_cases c : cand pv s = true ∧ lesO a s = true
    · rw [if_pos c]
      obtain ⟨i1, i2⟩ := fold_nx pv l (some s) hl' (fun q e => by cases e; exact c.1)
      refine ⟨fun e => (by cases (i1 e).1), fun q e => ?_⟩
      obtain ⟨j1, j2, j3, j4⟩ := i2 q e
      refine ⟨j1, ?_, ?_, ?_⟩
      · rcases j2 with h | h
        · exact Or.inl (List.mem_cons_of_mem _ h)
        · cases h; exact Or.inl List.mem_cons_self
      · intro t ht hc
        rcases List.mem_cons.mp ht with rfl | ht
        · exact j4 t rfl
        · exact j3 t ht hc
      · intro t ht
        subst ht
        have hst : lvB s.2 t.2 = true := c.2
        cases e2 : lvB t.2 q.2 with
        | false => rfl
        | true =>
          have := lv_tr hst e2
          rw [j4 s rfl] at this; cases this
    · rw [if_neg c]
      obtain ⟨i1, i2⟩ := fold_nx pv l a hl' ha
      refine ⟨fun e => ?_, fun q e => ?_⟩
      · obtain ⟨k1, k2⟩ := i1 e
        refine ⟨k1, fun t ht => ?_⟩
        rcases List.mem_cons.mp ht with rfl | ht
        · subst k1
          cases e3 : cand pv t with
          | false => rfl
          | true => exact absurd ⟨e3, rfl⟩ c
        · exact k2 t ht
      · obtain ⟨j1, j2, j3, j4⟩ := i2 q e
        refine ⟨j1, j2.imp (List.mem_cons_of_mem _) id, ?_, j4⟩
        intro t ht hc
        rcases List.mem_cons.mp ht with rfl | ht
        · cases a with
          | none => exact absurd ⟨hc, rfl⟩ c
          | some b =>
            have hb : lvB t.2 b.2 = false := by
              cases e3 : lvB t.2 b.2 with
              | false => rfl
              | true => exact absurd ⟨hc, e3⟩ c
            have hbq := j4 b rfl
            cases e2 : lvB t.2 q.2 with
            | false => rfl
            | true =>
              rcases j2 with h | h
              · by_cases hn : b.2.2 1 = q.2.2 1
                · by_cases hd : b.2.2 4 = q.2.2 4
                  · have : lvB t.2 b.2 = lvB t.2 q.2 := by unfold lvB; rw [hn, hd]
                    rw [this, e2] at hb; cases hb
                  · exfalso
                    have hqb : ¬ lvB q.2 b.2 = true := by
                      intro z; have := lv_tr e2 z; rw [hb] at this; cases this
                    rw [lv_iff] at hqb
                    have hbq' : ¬ lvB b.2 q.2 = true := by rw [hbq]; decide
                    rw [lv_iff] at hbq'
                    rcases lt_tot hd with z | z
                    · exact hbq' (Or.inl z)
                    · exact hqb (Or.inl z)
                · rcases lv_tot hn with z | z
                  · rw [hbq] at z; cases z
                  · have := lv_tr e2 z; rw [hb] at this; cases this
              · cases h; rw [hb] at e2; cases e2
        · exact j3 t ht hc
theorem cnt_le_of {P : List SL} {a b : SL → Bool} (h : ∀ s, s ∈ P → a s = true → b s = true) : P.countP a ≤ P.countP b := List.countP_mono_left h
/-- different trains have different ranks -/
theorem rk_lt {P : List SL} {s q : SL} (h1 : s ∈ P) (h : lvB s.2 q.2 = true) : rkN P s < rkN P q := by
  unfold rkN
  obtain ⟨D, R, hP⟩ := mem_split h1
  have e := lv_irr s.2
  have b : ∀ l : List SL, l.countP (fun o => lvB o.2 s.2) ≤ l.countP (fun o => lvB o.2 q.2) := fun l => cnt_le_of fun o _ ho => lv_tr ho h
  rw [hP, List.countP_append, List.countP_append, List.countP_cons, List.countP_cons, e, h]
  have := b D
  have := b R
  simp; omega
theorem rk_inj {P : List SL} (hs : SRT P) {s q : SL} (h1 : s ∈ P) (h2 : q ∈ P) (e : rkN P s = rkN P q) : s = q := by
  refine srt_eq hs h1 h2 (Classical.byContradiction fun hn => ?_)
  rcases lv_tot hn with z | z
  · have := rk_lt h1 z; omega
  · have := rk_lt h2 z; omega
theorem vis_of {S : List SL} (hs : SRT (prs S)) {q : SL} (h2 : q ∈ prs S) {k : Nat} (e : rkN (prs S) q = k) : visS S k = some q := by
  unfold visS
  cases ef : (prs S).find? fun s => decide (rkN (prs S) s = k) with
  | none =>
    rw [List.find?_eq_none] at ef
    exact absurd e (by simpa using ef q h2)
  | some s =>
    have h1 := List.mem_of_find?_eq_some ef
    have h3 : rkN (prs S) s = k := by simpa using List.find?_some ef
    rw [rk_inj hs h1 h2 (h3.trans e.symm)]
theorem mem_DR {D R : List SL} {s o : SL} (ho : o ∈ D ∨ o ∈ R) : o ∈ D ++ s :: R := ho.elim (List.mem_append_left _) (fun z => List.mem_append_right _ (List.mem_cons_of_mem _ z))
/-- the first -/
theorem nx_first {S : List SL} (hs : SRT (prs S)) (hne : prs S ≠ []) : ∃ q, nxS none S = some q ∧ q ∈ prs S ∧ rkN (prs S) q = 0 := by
  rw [nxS_prs]
  obtain ⟨i1, i2⟩ := fold_nx none (prs S) none (fun s h => (prs_mem h).2) (fun q e => by cases e)
  cases e : (prs S).foldl (nx1 none) none with
  | none =>
    obtain ⟨_, k⟩ := i1 e
    cases hp : prs S with
    | nil => exact absurd hp hne
    | cons s l => have := k s (by rw [hp]; exact List.mem_cons_self); cases this
  | some q =>
    obtain ⟨_, j2, j3, _⟩ := i2 q e
    have hq : q ∈ prs S := j2.elim id (fun z => by cases z)
    refine ⟨q, rfl, hq, ?_⟩
    unfold rkN
    rw [List.countP_eq_zero]
    intro o ho
    rw [j3 o ho rfl]; decide
theorem nx_empty {S : List SL} (h : prs S = []) (pv : Option TR) : nxS pv S = none := by rw [nxS_prs, h]; rfl
/-- the next -/
theorem nx_next {S : List SL} (hs : SRT (prs S)) {s : SL} (hm : s ∈ prs S) : (nxS (some s.2) S = none ∧ rkN (prs S) s + 1 = (prs S).length) ∨ ∃ q, nxS (some s.2) S = some q ∧ q ∈ prs S ∧ rkN (prs S) q = rkN (prs S) s + 1 := by
  rw [nxS_prs]
  obtain ⟨i1, i2⟩ := fold_nx (some s.2) (prs S) none (fun s h => (prs_mem h).2) (fun q e => by cases e)
  obtain ⟨D, R, hP⟩ := mem_split hm
  have others : ∀ o, o ∈ D ∨ o ∈ R → o.2.2 1 ≠ s.2.2 1 := by
    obtain ⟨a, b⟩ := hs D s R hP
    intro o ho e
    rcases ho with h | h
    · have := a o h; rw [e] at this; exact nlt_self _ this
    · have := b o h; rw [e] at this; exact nlt_self _ this
  cases e : (prs S).foldl (nx1 (some s.2)) none with
  | none =>
    obtain ⟨_, k⟩ := i1 e
    refine Or.inl ⟨rfl, ?_⟩
    have hall : ∀ o, o ∈ D ∨ o ∈ R → lvB o.2 s.2 = true := by
      intro o ho
      have hk := k o (hP ▸ mem_DR ho)
      rcases lv_tot (others o ho) with z | z
      · exact z
      · have : cand (some s.2) o = true := z
        rw [hk] at this; cases this
    unfold rkN
    rw [hP, List.countP_append, List.countP_cons, lv_irr]
    rw [List.countP_eq_length.mpr (fun o ho => hall o (Or.inl ho)), List.countP_eq_length.mpr (fun o ho => hall o (Or.inr ho))]
    simp; omega
  | some q =>
    obtain ⟨j1, j2, j3, _⟩ := i2 q e
    have hq : q ∈ prs S := j2.elim id (fun z => by cases z)
    have hsq : lvB s.2 q.2 = true := j1
    refine Or.inr ⟨q, rfl, hq, ?_⟩
    unfold rkN
    have key : ∀ o, o ∈ D ∨ o ∈ R → lvB o.2 q.2 = lvB o.2 s.2 := by
      intro o ho
      have hop : o ∈ prs S := hP ▸ mem_DR ho
      cases e1 : lvB o.2 s.2 with
      | true => exact lv_tr e1 hsq
      | false =>
        rcases lv_tot (others o ho) with z | z
        · rw [e1] at z; cases z
        · exact j3 o hop z
    rw [hP, List.countP_append, List.countP_append, List.countP_cons, List.countP_cons, lv_irr, hsq]
    rw [List.countP_congr (fun o ho => by rw [key o (Or.inl ho)]), List.countP_congr (p := fun o : SL => lvB o.2 q.2) (q := fun o => lvB o.2 s.2) (l := R) (fun o ho => by rw [key o (Or.inr ho)])]
    simp; omega
theorem rk_ex {S : List SL} (hs : SRT (prs S)) : ∀ k, k < (prs S).length → ∃ q, q ∈ prs S ∧ rkN (prs S) q = k
  | 0, hk => by
    obtain ⟨q, _, h2, h3⟩ := nx_first hs (fun e => by rw [e] at hk; cases hk)
    exact ⟨q, h2, h3⟩
  | k + 1, hk => by
    obtain ⟨s, h1, h2⟩ := rk_ex hs k (by omega)
    rcases nx_next hs h1 with ⟨_, e⟩ | ⟨q, _, e1, e2⟩
    · omega
    · exact ⟨q, e1, by rw [e2, h2]⟩
theorem nf_go {f tk rt : Nat → Int32} {S : List SL} (w : WS S) (j : Nat) : (go1 f tk rt S j).map Prod.fst = S.map Prod.fst := by
  unfold go1 try1
  split
  · split <;> exact upS_fst _ _ _
  · rfl
theorem go_prs2 {f tk rt : Nat → Int32} {S D R : List SL} {s : SL} (w : WS S) (hP : prs S = D ++ s :: R) : ∃ t : TR, prs (go1 f tk rt S s.1) = D ++ (s.1, t) :: R ∧ t.2 1 = s.2.2 1 ∧ t.2 4 = s.2.2 4 ∧ tr (go1 f tk rt S s.1) s.1 = t := by
  have hsS := prs_mem (show s ∈ prs S by rw [hP]; simp)
  obtain ⟨D2, R2, h2⟩ := mem_split hsS.1
  have ht := tr_mid w.2.1 h2
  have hh := has_mid w.2.1 h2
  unfold go1
  rw [ht]
  split
  · next hc =>
    unfold try1
    rw [ht]
    split
    · refine ⟨_, prs_up w hP (by show ¬ 4 = 1; decide), ?_, ?_, tr_up hh _⟩ <;> simp [up]
    · refine ⟨_, prs_up w hP (by show ¬ s.2.1 = 1; rw [hc.1]; decide), ?_, ?_, tr_up hh _⟩ <;> simp [up]
  · exact ⟨s.2, hP, rfl, rfl, ht⟩
theorem rk_same {D R : List SL} {s : SL} {t : TR} (h1 : t.2 1 = s.2.2 1) (h4 : t.2 4 = s.2.2 4) : rkN (D ++ (s.1, t) :: R) (s.1, t) = rkN (D ++ s :: R) s := by
  unfold rkN
  have k : ∀ u : TR, lvB u t = lvB u s.2 := fun u => by unfold lvB; rw [h1, h4]
  simp only [k, List.countP_append, List.countP_cons]
  have : lvB t s.2 = lvB s.2 s.2 := by unfold lvB; rw [h1, h4]
  rw [this]
theorem srt_same {D R : List SL} {s : SL} {t : TR} (hs : SRT (D ++ s :: R)) (h1 : t.2 1 = s.2.2 1) : SRT (D ++ (s.1, t) :: R) := by
  have key : ∀ P : List SL, SRT P ↔ (P.map fun s => s.2.2 1).Pairwise (· < ·) := by
    intro P
    constructor
    · intro h
      rw [List.pairwise_map]
      induction P with
      | nil => exact List.Pairwise.nil
      | cons a P ih =>
        refine List.Pairwise.cons (fun b hb => (h [] a P rfl).2 b hb) (ih fun D s R e => ?_)
        have := h (a :: D) s R (by rw [e]; rfl)
        exact ⟨fun o ho => this.1 o (List.mem_cons_of_mem _ ho), this.2⟩
    · intro h D s R e
      rw [e, List.map_append, List.map_cons, List.pairwise_append] at h
      refine ⟨fun o ho => h.2.2 _ (List.mem_map_of_mem (f := fun s : SL => s.2.2 1) ho) _ List.mem_cons_self, fun o ho => ?_⟩
      exact (List.pairwise_cons.mp h.2.1).1 _ (List.mem_map_of_mem (f := fun s : SL => s.2.2 1) ho)
  rw [key] at hs ⊢
  rw [List.map_append, List.map_cons] at hs ⊢
  simp only [h1]; exact hs
/-- both orders are one -/
theorem go_gm {f tk rt : Nat → Int32} (I' : List SL → Prop) (hI : ∀ S, I' S → WS S ∧ SRT (prs S)) (hg : ∀ S s, I' S → s ∈ prs S → I' (go1 f tk rt S s.1)) : ∀ (n k c : Nat) (S : List SL), I' S → n + k = (prs S).length → n ≤ c → goN f tk rt c (visS S k) S = gmN f tk rt n k S
  | 0, k, c, S, hS, hl, _ => by
    have hv : visS S k = none := by
      unfold visS
      rw [List.find?_eq_none]
      intro s hs e
      have hk : rkN (prs S) s = k := by simpa using e
      have hlt : rkN (prs S) s < (prs S).length := by
        obtain ⟨D, R, hP⟩ := mem_split hs
        unfold rkN
        rw [hP, List.countP_append, List.countP_cons, lv_irr]
        have h1 := List.countP_le_length (p := fun o : SL => lvB o.2 s.2) (l := D)
        have h2 := List.countP_le_length (p := fun o : SL => lvB o.2 s.2) (l := R)
        simp; omega
      omega
    rw [hv]
    cases c <;> rfl
  | n + 1, k, c + 1, S, hS, hl, hc => by
    obtain ⟨w, hs⟩ := hI S hS
    obtain ⟨s, h1, h2⟩ := rk_ex hs k (by omega)
    have hv := vis_of hs h1 h2
    obtain ⟨D, R, hP⟩ := mem_split h1
    obtain ⟨t, g1, g2, g3, g4⟩ := go_prs2 (f := f) (tk := tk) (rt := rt) w hP
    rw [gmN, hv, goN, g4]
    have hS2 := hg S s hS h1
    obtain ⟨w2, hs2⟩ := hI _ hS2
    have hl2 : (prs (go1 f tk rt S s.1)).length = (prs S).length := by rw [g1, hP]; simp
    have hm2 : (s.1, t) ∈ prs (go1 f tk rt S s.1) := by rw [g1]; simp
    have hr2 : rkN (prs (go1 f tk rt S s.1)) (s.1, t) = k := by rw [g1, rk_same g2 g3, ← hP]; exact h2
    have hnx : nxS (some t) (go1 f tk rt S s.1) = visS (go1 f tk rt S s.1) (k + 1) := by
      rcases nx_next hs2 hm2 with ⟨e1, e2⟩ | ⟨q, e1, e2, e3⟩
      · rw [show nxS (some t) (go1 f tk rt S s.1) = none from e1]
        cases e5 : visS (go1 f tk rt S s.1) (k + 1) with
        | none => rfl
        | some q =>
          exfalso
          have h5 := List.mem_of_find?_eq_some e5
          have h6 : rkN (prs (go1 f tk rt S s.1)) q = k + 1 := by simpa using List.find?_some e5
          have hlt : rkN (prs (go1 f tk rt S s.1)) q < (prs (go1 f tk rt S s.1)).length := by
            obtain ⟨D, R, hP⟩ := mem_split h5
            unfold rkN
            rw [hP, List.countP_append, List.countP_cons, lv_irr]
            have h1 := List.countP_le_length (p := fun o : SL => lvB o.2 q.2) (l := D)
            have h2 := List.countP_le_length (p := fun o : SL => lvB o.2 q.2) (l := R)
            simp; omega
          omega
      · rw [show nxS (some t) (go1 f tk rt S s.1) = some q from e1]
        exact (vis_of hs2 e2 (by rw [e3, hr2])).symm
    rw [hnx]
    exact go_gm I' hI hg n (k + 1) c _ hS2 (by omega) (by omega)
  | n + 1, k, 0, S, hS, hl, hc => by omega
theorem go_gm0 {f tk rt : Nat → Int32} (I' : List SL → Prop) (hI : ∀ S, I' S → WS S ∧ SRT (prs S)) (hg : ∀ S s, I' S → s ∈ prs S → I' (go1 f tk rt S s.1)) {S : List SL} (hS : I' S) (h6 : (prs S).length ≤ 6) : goN f tk rt 6 (nxS none S) S = gmN f tk rt (prs S).length 0 S := by
  rw [← go_gm I' hI hg (prs S).length 0 6 S hS (by omega) h6]
  congr 1
  by_cases hne : prs S = []
  · rw [nx_empty hne]
    unfold visS; rw [hne]; rfl
  · obtain ⟨q, e1, e2, e3⟩ := nx_first (hI S hS).2 hne
    rw [e1]; exact (vis_of (hI S hS).2 e2 e3).symm
