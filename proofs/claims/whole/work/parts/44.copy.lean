/-! a copy of a line -/
def out_ (p b : Nat) : Prop := b < p ∨ p + 11 ≤ b
theorem lk_none {S : List SL} {j : Nat} (hj : ∀ s, s ∈ S → s.1 ≠ j) : lk S j = none := by
  induction S with
  | nil => rfl
  | cons s S ih =>
    simp only [lk]
    rw [if_neg (hj s (by simp)), ih (fun t ht => hj t (by simp [ht]))]
theorem put_out (h : PH) {p : Nat} (f tk rt ps : Nat → Int32) {S : List SL} (w : WS S) {b : Nat} (o : out_ p b) : put h p f tk rt ps S b = h b := by
  unfold put
  unfold out_ at o
  rw [if_neg (by omega), if_neg (by omega), if_neg (by omega), if_neg (by omega), if_neg (by omega)]
  by_cases c : p + 5 ≤ b
  · rw [if_pos c, lk_none (fun s hs => by have := w.2.2.2.1 s hs; omega)]
  · rw [if_neg c]
theorem gOut (h : PH) {p : Nat} (f tk rt ps : Nat → Int32) {S : List SL} (w : WS S) (r : Nat × Nat × Nat) {b : Nat} (o : out_ p b) (c k : Nat) : gfd (put h p f tk rt ps S, r) c k b = gfd (h, r) c k b := by
  unfold gfd; simp only [put_out h f tk rt ps w o]
theorem put_fc (h : PH) {p : Nat} {f g : Nat → Int32} (tk rt ps : Nat → Int32) (S : List SL) (e : lO p f = lO p g) : put h p f tk rt ps S = put h p g tk rt ps S := by
  unfold put; rw [e]
theorem put_tc (h : PH) {p : Nat} (f tk rt ps : Nat → Int32) {S : List SL} {j : Nat} (hj : has S j) {t u : TR} (e : tO t = tO u) : put h p f tk rt ps (upS S j t) = put h p f tk rt ps (upS S j u) := by
  rw [← pu_5 h f tk rt ps S hj, ← pu_5 h f tk rt ps S hj, e]
theorem acp_all {H : HS} {n s d : Nat} {g g' : Nat → Int32} (e : H.1 s = some (iA n g)) (e' : H.1 d = some (iA n g')) (hs : 32 ≤ s) (hd : 32 ≤ d) (hn : n < 2147483648) : acp H s d 0 0 (I n) = some (hsu H d (iA n g)) := by
  unfold acp
  simp only [e, e', iA, List.length_map, List.length_range]
  rw [if_pos ⟨trivial, Or.inl trivial, hs, hd, by decide, by decide, I_nn hn, by rw [I_nat hn]; simp, by rw [I_nat hn]; simp⟩]
  refine congrArg (fun l => some (hsu H d (100, l))) (List.map_congr_left fun j hj => ?_)
  have hj' : j < n := by simpa using hj
  simp [va_cpy, fI, I_nat hn, hj']
theorem gq0 {h : PH} {q : Nat} {fq tq rq pq : Nat → Int32} {Sq : List SL} (hA : put h q fq tq rq pq Sq = h) (r : Nat × Nat × Nat) : gfd (h, r) 1 0 q = some (.int (fq 0)) := by
  have e := gl0 h q fq tq rq pq Sq r; rwa [hA] at e
theorem gq1 {h : PH} {q : Nat} {fq tq rq pq : Nat → Int32} {Sq : List SL} (hA : put h q fq tq rq pq Sq = h) (r : Nat × Nat × Nat) : gfd (h, r) 1 1 q = some (.ref (q + 1)) := by
  have e := gl1 h q fq tq rq pq Sq r; rwa [hA] at e
theorem gq2 {h : PH} {q : Nat} {fq tq rq pq : Nat → Int32} {Sq : List SL} (hA : put h q fq tq rq pq Sq = h) (r : Nat × Nat × Nat) : gfd (h, r) 1 2 q = some (.ref (q + 2)) := by
  have e := gl2 h q fq tq rq pq Sq r; rwa [hA] at e
theorem gq3 {h : PH} {q : Nat} {fq tq rq pq : Nat → Int32} {Sq : List SL} (hA : put h q fq tq rq pq Sq = h) (r : Nat × Nat × Nat) : gfd (h, r) 1 3 q = some (.ref (q + 3)) := by
  have e := gl3 h q fq tq rq pq Sq r; rwa [hA] at e
theorem gq4 {h : PH} {q : Nat} {fq tq rq pq : Nat → Int32} {Sq : List SL} (hA : put h q fq tq rq pq Sq = h) (r : Nat × Nat × Nat) : gfd (h, r) 1 4 q = some (.ref (q + 4)) := by
  have e := gl4 h q fq tq rq pq Sq r; rwa [hA] at e
theorem gq5 {h : PH} {q : Nat} {fq tq rq pq : Nat → Int32} {Sq : List SL} (hA : put h q fq tq rq pq Sq = h) (r : Nat × Nat × Nat) : gfd (h, r) 1 5 q = some (.int (fq 5)) := by
  have e := gl5 h q fq tq rq pq Sq r; rwa [hA] at e
theorem gq6 {h : PH} {q : Nat} {fq tq rq pq : Nat → Int32} {Sq : List SL} (hA : put h q fq tq rq pq Sq = h) (r : Nat × Nat × Nat) : gfd (h, r) 1 6 q = some (.int (fq 6)) := by
  have e := gl6 h q fq tq rq pq Sq r; rwa [hA] at e
theorem gq7 {h : PH} {q : Nat} {fq tq rq pq : Nat → Int32} {Sq : List SL} (hA : put h q fq tq rq pq Sq = h) (r : Nat × Nat × Nat) : gfd (h, r) 1 7 q = some (.int (fq 7)) := by
  have e := gl7 h q fq tq rq pq Sq r; rwa [hA] at e
theorem gq8 {h : PH} {q : Nat} {fq tq rq pq : Nat → Int32} {Sq : List SL} (hA : put h q fq tq rq pq Sq = h) (r : Nat × Nat × Nat) : gfd (h, r) 1 8 q = some (.int (fq 8)) := by
  have e := gl8 h q fq tq rq pq Sq r; rwa [hA] at e
theorem gq9 {h : PH} {q : Nat} {fq tq rq pq : Nat → Int32} {Sq : List SL} (hA : put h q fq tq rq pq Sq = h) (r : Nat × Nat × Nat) : gfd (h, r) 1 9 q = some (.int (fq 9)) := by
  have e := gl9 h q fq tq rq pq Sq r; rwa [hA] at e
theorem gq10 {h : PH} {q : Nat} {fq tq rq pq : Nat → Int32} {Sq : List SL} (hA : put h q fq tq rq pq Sq = h) (r : Nat × Nat × Nat) : gfd (h, r) 1 10 q = some (.long (fq 10).toInt64) := by
  have e := gl10 h q fq tq rq pq Sq r; rwa [hA] at e
theorem gq11 {h : PH} {q : Nat} {fq tq rq pq : Nat → Int32} {Sq : List SL} (hA : put h q fq tq rq pq Sq = h) (r : Nat × Nat × Nat) : gfd (h, r) 1 11 q = some (.int (fq 11)) := by
  have e := gl11 h q fq tq rq pq Sq r; rwa [hA] at e
theorem gq12 {h : PH} {q : Nat} {fq tq rq pq : Nat → Int32} {Sq : List SL} (hA : put h q fq tq rq pq Sq = h) (r : Nat × Nat × Nat) : gfd (h, r) 1 12 q = some (.int (fq 12)) := by
  have e := gl12 h q fq tq rq pq Sq r; rwa [hA] at e
theorem gu0 {h : PH} {b : Nat} {u : TR} (hb : h b = some (tO u)) (r : Nat × Nat × Nat) : gfd (h, r) 2 0 b = some (.ref u.1) := by
  simp [gfd, hb, tO]
theorem gu1 {h : PH} {b : Nat} {u : TR} (hb : h b = some (tO u)) (r : Nat × Nat × Nat) : gfd (h, r) 2 1 b = some (.int (u.2 1)) := by
  simp [gfd, hb, tO]
theorem gu2 {h : PH} {b : Nat} {u : TR} (hb : h b = some (tO u)) (r : Nat × Nat × Nat) : gfd (h, r) 2 2 b = some (.int (u.2 2)) := by
  simp [gfd, hb, tO]
theorem gu3 {h : PH} {b : Nat} {u : TR} (hb : h b = some (tO u)) (r : Nat × Nat × Nat) : gfd (h, r) 2 3 b = some (.int (u.2 3)) := by
  simp [gfd, hb, tO]
theorem gu4 {h : PH} {b : Nat} {u : TR} (hb : h b = some (tO u)) (r : Nat × Nat × Nat) : gfd (h, r) 2 4 b = some (.int (u.2 4)) := by
  simp [gfd, hb, tO]
theorem gu5 {h : PH} {b : Nat} {u : TR} (hb : h b = some (tO u)) (r : Nat × Nat × Nat) : gfd (h, r) 2 5 b = some (.int (u.2 5)) := by
  simp [gfd, hb, tO]
theorem gu6 {h : PH} {b : Nat} {u : TR} (hb : h b = some (tO u)) (r : Nat × Nat × Nat) : gfd (h, r) 2 6 b = some (.int (u.2 6)) := by
  simp [gfd, hb, tO]
theorem gu7 {h : PH} {b : Nat} {u : TR} (hb : h b = some (tO u)) (r : Nat × Nat × Nat) : gfd (h, r) 2 7 b = some (.int (u.2 7)) := by
  simp [gfd, hb, tO]
theorem gu8 {h : PH} {b : Nat} {u : TR} (hb : h b = some (tO u)) (r : Nat × Nat × Nat) : gfd (h, r) 2 8 b = some (.int (u.2 8)) := by
  simp [gfd, hb, tO]
theorem gu9 {h : PH} {b : Nat} {u : TR} (hb : h b = some (tO u)) (r : Nat × Nat × Nat) : gfd (h, r) 2 9 b = some (.int (u.2 9)) := by
  simp [gfd, hb, tO]
theorem gu10 {h : PH} {b : Nat} {u : TR} (hb : h b = some (tO u)) (r : Nat × Nat × Nat) : gfd (h, r) 2 10 b = some (.int (u.2 10)) := by
  simp [gfd, hb, tO]
theorem gu11 {h : PH} {b : Nat} {u : TR} (hb : h b = some (tO u)) (r : Nat × Nat × Nat) : gfd (h, r) 2 11 b = some (.int (u.2 11)) := by
  simp [gfd, hb, tO]
section COPY
variable (h : PH) {p : Nat} (f tk rt ps : Nat → Int32) (S : List SL) (r : Nat × Nat × Nat) {j i : Nat}
theorem WS_up {S : List SL} (w : WS S) (j : Nat) {t : TR} (ht : 1 ≤ t.1 ∧ t.1 ≤ 4) (hf : fitp 1 (.int (t.2 9)) = true) : WS (upS S j t) := by
  refine ⟨by rw [upS_len]; exact w.1, by unfold NDH; rw [upS_fst]; exact w.2.1, ?_, ?_, ?_⟩
  · intro s hs
    obtain ⟨a, ha, rfl⟩ := List.mem_map.mp hs
    by_cases c : a.1 = j
    · rw [if_pos c]; exact ht
    · rw [if_neg c]; exact w.2.2.1 a ha
  · intro s hs
    obtain ⟨a, ha, rfl⟩ := List.mem_map.mp hs
    by_cases c : a.1 = j
    · rw [if_pos c]; exact c ▸ w.2.2.2.1 a ha
    · rw [if_neg c]; exact w.2.2.2.1 a ha
  · intro s hs
    obtain ⟨a, ha, rfl⟩ := List.mem_map.mp hs
    by_cases c : a.1 = j
    · rw [if_pos c]; exact hf
    · rw [if_neg c]; exact w.2.2.2.2 a ha
theorem m89 (hp : 32 ≤ p) (w : WS S) (hj : has S j) {b : Nat} (o : out_ p b) {u : TR} (hb : h b = some (tO u)) (hu : fitp 1 (.int (u.2 9)) = true) : rcal 89 [.ref (p + 5 + j), .ref b] (put h p f tk rt ps S, r) = some (.inl none, (put h p f tk rt ps (upS S j u), r)) := by
  have hg : ∀ (T : List SL) (c k : Nat), (T.map Prod.fst = S.map Prod.fst) → gfd (put h p f tk rt ps T, r) c k b = gfd (h, r) c k b := by
    intro T c k hT
    have : put h p f tk rt ps T b = h b := by
      unfold put
      unfold out_ at o
      rw [if_neg (by omega), if_neg (by omega), if_neg (by omega), if_neg (by omega), if_neg (by omega)]
      by_cases c : p + 5 ≤ b
      · rw [if_pos c, lk_none (fun s hs => by
          have hm : s.1 ∈ S.map Prod.fst := hT ▸ List.mem_map_of_mem hs
          obtain ⟨a, ha, e⟩ := List.mem_map.mp hm
          have := w.2.2.2.1 a ha; omega)]
      · rw [if_neg c]
    unfold gfd; simp only [this]
  have e := put_tc h f tk rt ps (p := p) hj (t := (u.1, up (up (up (up (up (up (up (up (up (up (up (tr S j).2 1 (u.2 1)) 2 (u.2 2)) 3 (u.2 3)) 4 (u.2 4)) 5 (u.2 5)) 6 (u.2 6)) 7 (u.2 7)) 8 (u.2 8)) 9 (u.2 9)) 10 (u.2 10)) 11 (u.2 11))) (u := u) (by simp [tO, up])
  rw [← e]
  simp only [c89, x89_0, x89_1, x89_2, x89_5, x89_8, x89_9, x89_10, x89_13, x89_16, x89_17, x89_18, x89_21, x89_24, x89_25, x89_26, x89_29, x89_32, x89_33, x89_34, x89_37, x89_40, x89_41, x89_42, x89_45, x89_48, x89_49, x89_50, x89_53, x89_56, x89_57, x89_58, x89_61, x89_64, x89_65, x89_66, x89_69, x89_72, x89_73, x89_74, x89_77, x89_80, x89_81, x89_82, x89_85, x89_88, x89_89, x89_90, x89_93, x89_96, gk_some, pk_some, qk_some, bnd_v, bnd_n, kl_int, kl_ref, kl_null, kl_un, Nat.reduceAdd, if_true, if_false, pt0, pt1, pt2, pt3, pt4, pt5, pt6, pt7, pt8, pt9, pt10, pt11, hp, hj, has_up, tr_up, upS_upS, hg _ _ _ rfl, hg _ _ _ (upS_fst _ _ _), gu0 hb, gu1 hb, gu2 hb, gu3 hb, gu4 hb, gu5 hb, gu6 hb, gu7 hb, gu8 hb, gu9 hb, gu10 hb, gu11 hb, hu]
theorem upS_mid {D R : List SL} {s : SL} (nd : NDH (D ++ s :: R)) (t : TR) : upS (D ++ s :: R) s.1 t = D ++ (s.1, t) :: R := by
  have h1 : ∀ a, a ∈ D → a.1 ≠ s.1 := by
    intro a ha e
    unfold NDH at nd
    rw [List.map_append, List.nodup_append] at nd
    exact nd.2.2 a.1 (List.mem_map_of_mem ha) s.1 (by simp) e
  have h2 : ∀ a, a ∈ R → a.1 ≠ s.1 := by
    intro a ha e
    unfold NDH at nd
    rw [List.map_append, List.nodup_append] at nd
    exact (List.nodup_cons.mp nd.2.1).1 (e ▸ List.mem_map_of_mem ha)
  have key : ∀ l : List SL, (∀ a, a ∈ l → a.1 ≠ s.1) → l.map (fun a => if a.1 = s.1 then (s.1, t) else a) = l := by
    intro l hl
    induction l with
    | nil => rfl
    | cons a l ih => rw [List.map_cons, if_neg (hl a (by simp)), ih (fun b hb => hl b (by simp [hb]))]
  unfold upS
  rw [List.map_append, List.map_cons, if_pos rfl, key D h1, key R h2]
/-- the trains of one line in the places of another -/
def zipT : List SL → List SL → List SL
  | s :: S, s' :: S' => (s.1, s'.2) :: zipT S S'
  | _, _ => []
theorem zip_fst : ∀ {S S' : List SL}, S.length = S'.length → (zipT S S').map Prod.fst = S.map Prod.fst
  | [], [], _ => rfl
  | s :: S, s' :: S', e => by
    simp only [zipT, List.map_cons]
    rw [zip_fst (S := S) (S' := S') (by simpa using e)]
theorem zip_snd : ∀ {S S' : List SL}, S.length = S'.length → (zipT S S').map Prod.snd = S'.map Prod.snd
  | [], [], _ => rfl
  | s :: S, s' :: S', e => by
    simp only [zipT, List.map_cons]
    rw [zip_snd (S := S) (S' := S') (by simpa using e)]
theorem WS_zip {S S' : List SL} (w : WS S) (w' : WS S') : WS (zipT S S') := by
  have hl : S.length = S'.length := by rw [w.1, w'.1]
  have h1 := zip_fst hl
  have h2 := zip_snd hl
  have m1 : ∀ s, s ∈ zipT S S' → ∃ a, a ∈ S ∧ a.1 = s.1 := fun s hs => by
    have : s.1 ∈ S.map Prod.fst := h1 ▸ List.mem_map_of_mem hs
    simpa using List.mem_map.mp this
  have m2 : ∀ s, s ∈ zipT S S' → ∃ a, a ∈ S' ∧ a.2 = s.2 := fun s hs => by
    have : s.2 ∈ S'.map Prod.snd := h2 ▸ List.mem_map_of_mem hs
    simpa using List.mem_map.mp this
  refine ⟨?_, by unfold NDH; rw [h1]; exact w.2.1, ?_, ?_, ?_⟩
  · have := congrArg List.length h1
    simpa [w.1] using this
  · intro s hs; obtain ⟨a, ha, e⟩ := m2 s hs; rw [← e]; exact w'.2.2.1 a ha
  · intro s hs; obtain ⟨a, ha, e⟩ := m1 s hs; rw [← e]; exact w.2.2.2.1 a ha
  · intro s hs; obtain ⟨a, ha, e⟩ := m2 s hs; rw [← e]; exact w'.2.2.2.2 a ha
theorem aald_out {S : List SL} (w : WS S) {b : Nat} (o : out_ p b) (i : Int32) : aald (put h p f tk rt ps S, r) b i = aald (h, r) b i := by
  unfold aald; simp only [put_out h f tk rt ps w o]
theorem atq_mid {q : Nat} {fq tq rq pq : Nat → Int32} {Sq : List SL} (hA : put h q fq tq rq pq Sq = h) {D R : List SL} {s : SL} (hS : Sq = D ++ s :: R) (hl : Sq.length < 2147483648) : aald (h, r) (q + 4) (I D.length) = some (.ref (q + 5 + s.1)) := by
  have e := at_mid h fq tq rq pq Sq r (p := q) hS hl; rwa [hA] at e
theorem l35 (hp : 32 ≤ p) {q : Nat} {fq tq rq pq : Nat → Int32} {Sq : List SL} (hA : put h q fq tq rq pq Sq = h) (wq : WS Sq) (hd : q + 11 ≤ p ∨ p + 11 ≤ q) : ∀ (R R' D D' : List SL) (T : List SL) (i : Int32), T = D ++ R → Sq = D' ++ R' → D.length = D'.length → WS T → i = I D.length → rn 35 55 [.ref p, .ref q, .int i] [] (put h p f tk rt ps T, r) = rn 35 82 [.ref p, .ref q, .int (I 6)] [] (put h p f tk rt ps (D ++ zipT R R'), r) := by
  intro R
  induction R with
  | nil =>
    intro R' D D' T i hT hS hl w hi
    have h6 := end_ w hT
    rw [x35_55]
    simp only [x35_0, x35_1, x35_2, x35_5, x35_8, x35_9, x35_12, x35_13, x35_14, x35_17, x35_18, x35_20, x35_23, x35_24, x35_27, x35_28, x35_29, x35_32, x35_33, x35_35, x35_38, x35_39, x35_42, x35_43, x35_44, x35_47, x35_48, x35_50, x35_53, x35_54, x35_56, x35_58, x35_61, x35_62, x35_65, x35_66, x35_67, x35_68, x35_71, x35_72, x35_73, x35_76, x35_79, x35_83, x35_84, x35_87, x35_90, x35_91, x35_92, x35_95, x35_98, x35_99, x35_100, x35_103, x35_106, x35_107, x35_108, x35_111, x35_114, x35_115, x35_116, x35_119, x35_122, x35_123, x35_124, x35_127, x35_130, x35_131, x35_132, x35_135, x35_138, x35_139, x35_140, x35_143, x35_146, gk_some, pk_some, qk_some, bnd_v, bnd_n, kl_int, kl_ref, kl_null, kl_un, Nat.reduceAdd, if_true, if_false, hi, h6, show ¬ I 6 < 6 by decide, zipT]
    rw [hT]
  | cons s R ih =>
    intro R' D D' T i hT hS hl w hi
    obtain ⟨h1, h2, h3, h4, h5⟩ := mid_ w hT
    cases R' with
    | nil => exfalso; have a := wq.1; rw [hS] at a; simp at a; omega
    | cons s' R' =>
      have ha := at_mid h f tk rt ps T r (p := p) hT (by rw [w.1]; decide)
      obtain ⟨k1, k2, k3, k4, k5⟩ := mid_ wq hS
      have hb := atq_mid h r hA hS (by rw [wq.1]; decide)
      rw [← hl] at hb
      have hs6 : s'.1 < 6 := wq.2.2.2.1 s' (by rw [hS]; simp)
      have hq : h (q + 5 + s'.1) = some (tO s'.2) := by
        have e := put_t h q fq tq rq pq Sq k1
        rw [hA, k2] at e; exact e
      have hf9 := wq.2.2.2.2 s' (by rw [hS]; simp)
      have hm := m89 h f tk rt ps T r hp w h1 (b := q + 5 + s'.1) (by unfold out_; omega) hq hf9
      have hT2 : upS T s.1 s'.2 = (D ++ [(s.1, s'.2)]) ++ R := by
        have nd := w.2.1
        rw [hT] at nd ⊢
        rw [upS_mid nd]; simp
      have ih' := ih R' (D ++ [(s.1, s'.2)]) (D' ++ [s']) (upS T s.1 s'.2) (I D.length + 1) hT2 (sub_ hS) (by simp [hl]) (WS_up w s.1 k3 hf9) (by rw [I_1]; simp)
      have o4 : out_ p (q + 4) := by unfold out_; omega
      have o0 : out_ p q := by unfold out_; omega
      rw [x35_55]
      simp only [x35_0, x35_1, x35_2, x35_5, x35_8, x35_9, x35_12, x35_13, x35_14, x35_17, x35_18, x35_20, x35_23, x35_24, x35_27, x35_28, x35_29, x35_32, x35_33, x35_35, x35_38, x35_39, x35_42, x35_43, x35_44, x35_47, x35_48, x35_50, x35_53, x35_54, x35_56, x35_58, x35_61, x35_62, x35_65, x35_66, x35_67, x35_68, x35_71, x35_72, x35_73, x35_76, x35_79, x35_82, x35_83, x35_84, x35_87, x35_90, x35_91, x35_92, x35_95, x35_98, x35_99, x35_100, x35_103, x35_106, x35_107, x35_108, x35_111, x35_114, x35_115, x35_116, x35_119, x35_122, x35_123, x35_124, x35_127, x35_130, x35_131, x35_132, x35_135, x35_138, x35_139, x35_140, x35_143, x35_146, gk_some, pk_some, qk_some, bnd_v, bnd_n, kl_int, kl_ref, kl_null, kl_un, Nat.reduceAdd, if_true, if_false, gl0, gl1, gl2, gl3, gl4, gl5, gl6, gl7, gl8, gl9, gl10, gl11, gl12, rvL, rvT, alL, ln1, ln2, ln3, hi, show (I D.length < 6) = True from eq_true h4, gOut h f tk rt ps w r o0, gq4 hA, aald_out h f tk rt ps r w o4, hb, ha, h1, hm, ih']
      simp only [zipT, List.append_assoc, List.singleton_append]
theorem m35 (hp : 32 ≤ p) {q : Nat} {fq tq rq pq : Nat → Int32} {Sq : List SL} (hA : put h q fq tq rq pq Sq = h) (hq : 32 ≤ q) (w : WS S) (wq : WS Sq) (hd : q + 11 ≤ p ∨ p + 11 ≤ q) : rcal 35 [.ref p, .ref q] (put h p f tk rt ps S, r) = some (.inl none, (put h p fq tq rq pq (zipT S Sq), r)) := by
  have o0 : out_ p q := by unfold out_; omega
  have g := fun f tk rt ps T (w : WS T) => gOut h f tk rt ps w r o0 (p := p)
  have wz : WS (zipT S Sq) := WS_zip w wq
  have e : ∀ f tk rt ps, rn 35 55 [.ref p, .ref q, .int 0] [] (put h p f tk rt ps S, r) = _ := fun f tk rt ps => l35 h f tk rt ps r hp hA wq hd S Sq [] [] S 0 rfl rfl rfl w rfl
  have a1 : h (q + 1) = some (iA 7 tq) := by have e := put_1 h q fq tq rq pq Sq; rwa [hA] at e
  have a2 : h (q + 2) = some (iA 6 rq) := by have e := put_2 h q fq tq rq pq Sq; rwa [hA] at e
  have a3 : h (q + 3) = some (iA 7 pq) := by have e := put_3 h q fq tq rq pq Sq; rwa [hA] at e
  have c1 : ∀ f tk rt ps, acp (put h p f tk rt ps S, r) (q + 1) (p + 1) 0 0 7 = some (put h p f tq rt ps S, r) := fun f tk rt ps => by
    rw [show (7 : Int32) = I 7 from rfl, acp_all (H := (put h p f tk rt ps S, r)) (s := q + 1) (d := p + 1) (g := tq) (g' := tk) (by rw [show (put h p f tk rt ps S, r).1 = put h p f tk rt ps S from rfl, put_out h f tk rt ps w (by unfold out_; omega)]; exact a1) (put_1 ..) (by omega) (by omega) (by decide), hsu, pu_1]
  have c2 : ∀ f tk rt ps, acp (put h p f tk rt ps S, r) (q + 2) (p + 2) 0 0 6 = some (put h p f tk rq ps S, r) := fun f tk rt ps => by
    rw [show (6 : Int32) = I 6 from rfl, acp_all (H := (put h p f tk rt ps S, r)) (s := q + 2) (d := p + 2) (g := rq) (g' := rt) (by rw [show (put h p f tk rt ps S, r).1 = put h p f tk rt ps S from rfl, put_out h f tk rt ps w (by unfold out_; omega)]; exact a2) (put_2 ..) (by omega) (by omega) (by decide), hsu, pu_2]
  have c3 : ∀ f tk rt ps, acp (put h p f tk rt ps S, r) (q + 3) (p + 3) 0 0 7 = some (put h p f tk rt pq S, r) := fun f tk rt ps => by
    rw [show (7 : Int32) = I 7 from rfl, acp_all (H := (put h p f tk rt ps S, r)) (s := q + 3) (d := p + 3) (g := pq) (g' := ps) (by rw [show (put h p f tk rt ps S, r).1 = put h p f tk rt ps S from rfl, put_out h f tk rt ps w (by unfold out_; omega)]; exact a3) (put_3 ..) (by omega) (by omega) (by decide), hsu, pu_3]
  have ef := put_fc h (p := p) (f := up (up (up (up (up (up (up (up (up f 0 (fq 0)) 5 (fq 5)) 6 (fq 6)) 7 (fq 7)) 8 (fq 8)) 9 (fq 9)) 10 (fq 10)) 11 (fq 11)) 12 (fq 12)) (g := fq) tq rq pq (zipT S Sq) (by simp [lO, up])
  rw [← ef]
  simp only [c35, x35_0, x35_1, x35_2, x35_5, x35_8, x35_9, x35_12, x35_13, x35_14, x35_17, x35_18, x35_20, x35_23, x35_24, x35_27, x35_28, x35_29, x35_32, x35_33, x35_35, x35_38, x35_39, x35_42, x35_43, x35_44, x35_47, x35_48, x35_50, x35_53, x35_54, x35_56, x35_58, x35_61, x35_62, x35_65, x35_66, x35_67, x35_68, x35_71, x35_72, x35_73, x35_76, x35_79, x35_82, x35_83, x35_84, x35_87, x35_90, x35_91, x35_92, x35_95, x35_98, x35_99, x35_100, x35_103, x35_106, x35_107, x35_108, x35_111, x35_114, x35_115, x35_116, x35_119, x35_122, x35_123, x35_124, x35_127, x35_130, x35_131, x35_132, x35_135, x35_138, x35_139, x35_140, x35_143, x35_146, gk_some, pk_some, qk_some, bnd_v, bnd_n, kl_int, kl_ref, kl_null, kl_un, Nat.reduceAdd, if_true, if_false, gl0, gl1, gl2, gl3, gl4, gl5, gl6, gl7, gl8, gl9, gl10, gl11, gl12, pl0, pl5, pl6, pl7, pl8, pl9, pl10, pl11, pl12, hp, g _ _ _ _ _ w, g _ _ _ _ _ wz, gq0 hA, gq1 hA, gq2 hA, gq3 hA, gq4 hA, gq5 hA, gq6 hA, gq7 hA, gq8 hA, gq9 hA, gq10 hA, gq11 hA, gq12 hA, c1, c2, c3, e, List.nil_append]
end COPY
