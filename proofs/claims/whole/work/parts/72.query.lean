/-! the class's queries -/
theorem tq0 {h : PH} {q : Nat} {fq tq rq pq : Nat → Int32} {Sq : List SL} (hA : put h q fq tq rq pq Sq = h) (r : Nat × Nat × Nat) {j : Nat} (hj : has Sq j) : gfd (h, r) 2 0 (q + 5 + j) = some (.ref (tr Sq j).1) := by
  have e := gt0 h q fq tq rq pq Sq r hj; rwa [hA] at e
theorem tq1 {h : PH} {q : Nat} {fq tq rq pq : Nat → Int32} {Sq : List SL} (hA : put h q fq tq rq pq Sq = h) (r : Nat × Nat × Nat) {j : Nat} (hj : has Sq j) : gfd (h, r) 2 1 (q + 5 + j) = some (.int ((tr Sq j).2 1)) := by
  have e := gt1 h q fq tq rq pq Sq r hj; rwa [hA] at e
theorem tq2 {h : PH} {q : Nat} {fq tq rq pq : Nat → Int32} {Sq : List SL} (hA : put h q fq tq rq pq Sq = h) (r : Nat × Nat × Nat) {j : Nat} (hj : has Sq j) : gfd (h, r) 2 2 (q + 5 + j) = some (.int ((tr Sq j).2 2)) := by
  have e := gt2 h q fq tq rq pq Sq r hj; rwa [hA] at e
theorem tq3 {h : PH} {q : Nat} {fq tq rq pq : Nat → Int32} {Sq : List SL} (hA : put h q fq tq rq pq Sq = h) (r : Nat × Nat × Nat) {j : Nat} (hj : has Sq j) : gfd (h, r) 2 3 (q + 5 + j) = some (.int ((tr Sq j).2 3)) := by
  have e := gt3 h q fq tq rq pq Sq r hj; rwa [hA] at e
theorem tq4 {h : PH} {q : Nat} {fq tq rq pq : Nat → Int32} {Sq : List SL} (hA : put h q fq tq rq pq Sq = h) (r : Nat × Nat × Nat) {j : Nat} (hj : has Sq j) : gfd (h, r) 2 4 (q + 5 + j) = some (.int ((tr Sq j).2 4)) := by
  have e := gt4 h q fq tq rq pq Sq r hj; rwa [hA] at e
theorem tq5 {h : PH} {q : Nat} {fq tq rq pq : Nat → Int32} {Sq : List SL} (hA : put h q fq tq rq pq Sq = h) (r : Nat × Nat × Nat) {j : Nat} (hj : has Sq j) : gfd (h, r) 2 5 (q + 5 + j) = some (.int ((tr Sq j).2 5)) := by
  have e := gt5 h q fq tq rq pq Sq r hj; rwa [hA] at e
theorem tq6 {h : PH} {q : Nat} {fq tq rq pq : Nat → Int32} {Sq : List SL} (hA : put h q fq tq rq pq Sq = h) (r : Nat × Nat × Nat) {j : Nat} (hj : has Sq j) : gfd (h, r) 2 6 (q + 5 + j) = some (.int ((tr Sq j).2 6)) := by
  have e := gt6 h q fq tq rq pq Sq r hj; rwa [hA] at e
theorem tq7 {h : PH} {q : Nat} {fq tq rq pq : Nat → Int32} {Sq : List SL} (hA : put h q fq tq rq pq Sq = h) (r : Nat × Nat × Nat) {j : Nat} (hj : has Sq j) : gfd (h, r) 2 7 (q + 5 + j) = some (.int ((tr Sq j).2 7)) := by
  have e := gt7 h q fq tq rq pq Sq r hj; rwa [hA] at e
theorem tq8 {h : PH} {q : Nat} {fq tq rq pq : Nat → Int32} {Sq : List SL} (hA : put h q fq tq rq pq Sq = h) (r : Nat × Nat × Nat) {j : Nat} (hj : has Sq j) : gfd (h, r) 2 8 (q + 5 + j) = some (.int ((tr Sq j).2 8)) := by
  have e := gt8 h q fq tq rq pq Sq r hj; rwa [hA] at e
theorem tq9 {h : PH} {q : Nat} {fq tq rq pq : Nat → Int32} {Sq : List SL} (hA : put h q fq tq rq pq Sq = h) (r : Nat × Nat × Nat) {j : Nat} (hj : has Sq j) : gfd (h, r) 2 9 (q + 5 + j) = some (.int ((tr Sq j).2 9)) := by
  have e := gt9 h q fq tq rq pq Sq r hj; rwa [hA] at e
theorem tq10 {h : PH} {q : Nat} {fq tq rq pq : Nat → Int32} {Sq : List SL} (hA : put h q fq tq rq pq Sq = h) (r : Nat × Nat × Nat) {j : Nat} (hj : has Sq j) : gfd (h, r) 2 10 (q + 5 + j) = some (.int ((tr Sq j).2 10)) := by
  have e := gt10 h q fq tq rq pq Sq r hj; rwa [hA] at e
theorem tq11 {h : PH} {q : Nat} {fq tq rq pq : Nat → Int32} {Sq : List SL} (hA : put h q fq tq rq pq Sq = h) (r : Nat × Nat × Nat) {j : Nat} (hj : has Sq j) : gfd (h, r) 2 11 (q + 5 + j) = some (.int ((tr Sq j).2 11)) := by
  have e := gt11 h q fq tq rq pq Sq r hj; rwa [hA] at e
/-- the class's line at p, its forecast at pf -/
def QK (h : PH) (p pf : Nat) (L Fc : LN) : Prop := (∃ x1 x3 x4 x5 x6 x7 x8, h 32 = some (0, [.ref p, x1, .ref pf, x3, x4, x5, x6, x7, x8])) ∧ (33 ≤ p ∧ 33 ≤ pf ∧ (pf + 11 ≤ p ∨ p + 11 ≤ pf)) ∧ (LAt h p L ∧ WS L.2.2.2.2) ∧ (LAt h pf Fc ∧ WS Fc.2.2.2.2) ∧ ∃ n, L.1 0 = I n ∧ n ≤ 7
theorem AK_QK {h : PH} {L Sv Fc : LN} {Hs : Nat → LN} {nx ct : Nat} {sv er fa : Int32} (k : AK h L Sv Fc Hs nx ct sv er fa) {n : Nat} (hn : L.1 0 = I n) (h7 : n ≤ 7) : QK h 33 55 L Fc := by
  obtain ⟨z0, l33, l44, l55, z66, z67, lh, ck, n9, c8⟩ := k
  exact ⟨⟨_, _, _, _, _, _, _, z0⟩, ⟨by decide, by decide, by decide⟩, l33, l55, n, hn, h7⟩
section QUERY
variable {h : PH} {p pf : Nat} {L Fc : LN} (r : Nat × Nat × Nat)
theorem q100 (k : QK h p pf L Fc) : rcal 100 [.ref 32] (h, r) = some (.inl (some (.int (L.1 0))), (h, r)) := by
  obtain ⟨⟨x1, x3, x4, x5, x6, x7, x8, e32⟩, ⟨hp, hpf, hdis⟩, ⟨lA, w⟩, ⟨lF, wF⟩, n, hn, h7⟩ := k
  replace lA : put h p L.1 L.2.1 L.2.2.1 L.2.2.2.1 L.2.2.2.2 = h := lA
  have g0 := gf_of e32 r 0
  have rl := rvL_of (L := L) r lA
  simp only [c100, x100_0, x100_1, x100_4, x100_7, gk_some, pk_some, qk_some, bnd_v, bnd_n, kl_int, kl_ref, kl_null, kl_un, Nat.reduceAdd, if_true, if_false, g0, List.getElem?_cons_zero, List.getElem?_cons_succ, gq0 lA]
theorem q111 (k : QK h p pf L Fc) : rcal 111 [.ref 32] (h, r) = some (.inl (some (.int (L.1 5))), (h, r)) := by
  obtain ⟨⟨x1, x3, x4, x5, x6, x7, x8, e32⟩, ⟨hp, hpf, hdis⟩, ⟨lA, w⟩, ⟨lF, wF⟩, n, hn, h7⟩ := k
  replace lA : put h p L.1 L.2.1 L.2.2.1 L.2.2.2.1 L.2.2.2.2 = h := lA
  have g0 := gf_of e32 r 0
  have rl := rvL_of (L := L) r lA
  simp only [c111, x111_0, x111_1, x111_4, x111_7, gk_some, pk_some, qk_some, bnd_v, bnd_n, kl_int, kl_ref, kl_null, kl_un, Nat.reduceAdd, if_true, if_false, g0, List.getElem?_cons_zero, List.getElem?_cons_succ, gq5 lA]
theorem q126 (k : QK h p pf L Fc) : rcal 126 [.ref 32] (h, r) = some (.inl (some (.int (L.1 7))), (h, r)) := by
  obtain ⟨⟨x1, x3, x4, x5, x6, x7, x8, e32⟩, ⟨hp, hpf, hdis⟩, ⟨lA, w⟩, ⟨lF, wF⟩, n, hn, h7⟩ := k
  replace lA : put h p L.1 L.2.1 L.2.2.1 L.2.2.2.1 L.2.2.2.2 = h := lA
  have g0 := gf_of e32 r 0
  have rl := rvL_of (L := L) r lA
  simp only [c126, x126_0, x126_1, x126_4, x126_7, gk_some, pk_some, qk_some, bnd_v, bnd_n, kl_int, kl_ref, kl_null, kl_un, Nat.reduceAdd, if_true, if_false, g0, List.getElem?_cons_zero, List.getElem?_cons_succ, gq7 lA]
theorem q127 (k : QK h p pf L Fc) : rcal 127 [.ref 32] (h, r) = some (.inl (some (.int (L.1 8))), (h, r)) := by
  obtain ⟨⟨x1, x3, x4, x5, x6, x7, x8, e32⟩, ⟨hp, hpf, hdis⟩, ⟨lA, w⟩, ⟨lF, wF⟩, n, hn, h7⟩ := k
  replace lA : put h p L.1 L.2.1 L.2.2.1 L.2.2.2.1 L.2.2.2.2 = h := lA
  have g0 := gf_of e32 r 0
  have rl := rvL_of (L := L) r lA
  simp only [c127, x127_0, x127_1, x127_4, x127_7, gk_some, pk_some, qk_some, bnd_v, bnd_n, kl_int, kl_ref, kl_null, kl_un, Nat.reduceAdd, if_true, if_false, g0, List.getElem?_cons_zero, List.getElem?_cons_succ, gq8 lA]
theorem q129 (k : QK h p pf L Fc) : rcal 129 [.ref 32] (h, r) = some (.inl (some (.long (L.1 10).toInt64)), (h, r)) := by
  obtain ⟨⟨x1, x3, x4, x5, x6, x7, x8, e32⟩, ⟨hp, hpf, hdis⟩, ⟨lA, w⟩, ⟨lF, wF⟩, n, hn, h7⟩ := k
  replace lA : put h p L.1 L.2.1 L.2.2.1 L.2.2.2.1 L.2.2.2.2 = h := lA
  have g0 := gf_of e32 r 0
  have rl := rvL_of (L := L) r lA
  simp only [c129, x129_0, x129_1, x129_4, x129_7, gk_some, pk_some, qk_some, bnd_v, bnd_n, kl_int, kl_ref, kl_null, kl_un, Nat.reduceAdd, if_true, if_false, g0, List.getElem?_cons_zero, List.getElem?_cons_succ, gq10 lA]
/-- is it a station? a section? -/
def isSt (L : LN) (v : Int32) : Prop := ¬ v < 0 ∧ v < L.1 0
def isSe (L : LN) (v : Int32) : Prop := ¬ v < 0 ∧ v < L.1 0 - 1
theorem q109 (k : QK h p pf L Fc) {v : Int32} (hv : isSt L v) : rcal 109 [.ref 32, .int v] (h, r) = some (.inl none, (h, r)) := by
  obtain ⟨⟨x1, x3, x4, x5, x6, x7, x8, e32⟩, ⟨hp, hpf, hdis⟩, ⟨lA, w⟩, ⟨lF, wF⟩, n, hn, h7⟩ := k
  replace lA : put h p L.1 L.2.1 L.2.2.1 L.2.2.2.1 L.2.2.2.2 = h := lA
  have g0 := gf_of e32 r 0
  have rl := rvL_of (L := L) r lA
  have e := m55 h L.1 L.2.1 L.2.2.1 L.2.2.2.1 L.2.2.2.2 r (p := p) v
  rw [lA] at e
  unfold isSt at hv
  simp only [c109, x109_0, x109_1, x109_4, x109_5, x109_8, x109_11, x109_21, gk_some, pk_some, qk_some, bnd_v, bnd_n, kl_int, kl_ref, kl_null, kl_un, Nat.reduceAdd, if_true, if_false, g0, List.getElem?_cons_zero, List.getElem?_cons_succ, rl, e, hv, decide_true, fit1, fit0, fitb, b2i_t, b2i_f, reduceIte, decide_true, decide_false, ne10, not_false_eq_true, and_self]
theorem q109n (k : QK h p pf L Fc) {v : Int32} (hv : ¬ isSt L v) : rcal 109 [.ref 32, .int v] (h, r) = some (.inr 0, hsx (h, r)) := by
  obtain ⟨⟨x1, x3, x4, x5, x6, x7, x8, e32⟩, ⟨hp, hpf, hdis⟩, ⟨lA, w⟩, ⟨lF, wF⟩, n, hn, h7⟩ := k
  replace lA : put h p L.1 L.2.1 L.2.2.1 L.2.2.2.1 L.2.2.2.2 = h := lA
  have g0 := gf_of e32 r 0
  have rl := rvL_of (L := L) r lA
  have e := m55 h L.1 L.2.1 L.2.2.1 L.2.2.2.1 L.2.2.2.2 r (p := p) v
  rw [lA] at e
  unfold isSt at hv
  simp only [c109, x109_0, x109_1, x109_4, x109_5, x109_8, x109_11, x109_21, gk_some, pk_some, qk_some, bnd_v, bnd_n, kl_int, kl_ref, kl_null, kl_un, Nat.reduceAdd, if_true, if_false, g0, List.getElem?_cons_zero, List.getElem?_cons_succ, rl, e, hv, decide_false, fit1, fit0, fitb, b2i_t, b2i_f, reduceIte, decide_true, decide_false, Bool.false_eq_true]
theorem q110 (k : QK h p pf L Fc) {v : Int32} (hv : isSe L v) : rcal 110 [.ref 32, .int v] (h, r) = some (.inl none, (h, r)) := by
  obtain ⟨⟨x1, x3, x4, x5, x6, x7, x8, e32⟩, ⟨hp, hpf, hdis⟩, ⟨lA, w⟩, ⟨lF, wF⟩, n, hn, h7⟩ := k
  replace lA : put h p L.1 L.2.1 L.2.2.1 L.2.2.2.1 L.2.2.2.2 = h := lA
  have g0 := gf_of e32 r 0
  have rl := rvL_of (L := L) r lA
  have e := m56 h L.1 L.2.1 L.2.2.1 L.2.2.2.1 L.2.2.2.2 r (p := p) v
  rw [lA] at e
  unfold isSe at hv
  simp only [c110, x110_0, x110_1, x110_4, x110_5, x110_8, x110_11, x110_21, gk_some, pk_some, qk_some, bnd_v, bnd_n, kl_int, kl_ref, kl_null, kl_un, Nat.reduceAdd, if_true, if_false, g0, List.getElem?_cons_zero, List.getElem?_cons_succ, rl, e, hv, decide_true, fit1, fit0, fitb, b2i_t, b2i_f, reduceIte, decide_true, decide_false, ne10, not_false_eq_true, and_self]
theorem q110n (k : QK h p pf L Fc) {v : Int32} (hv : ¬ isSe L v) : rcal 110 [.ref 32, .int v] (h, r) = some (.inr 0, hsx (h, r)) := by
  obtain ⟨⟨x1, x3, x4, x5, x6, x7, x8, e32⟩, ⟨hp, hpf, hdis⟩, ⟨lA, w⟩, ⟨lF, wF⟩, n, hn, h7⟩ := k
  replace lA : put h p L.1 L.2.1 L.2.2.1 L.2.2.2.1 L.2.2.2.2 = h := lA
  have g0 := gf_of e32 r 0
  have rl := rvL_of (L := L) r lA
  have e := m56 h L.1 L.2.1 L.2.2.1 L.2.2.2.1 L.2.2.2.2 r (p := p) v
  rw [lA] at e
  unfold isSe at hv
  simp only [c110, x110_0, x110_1, x110_4, x110_5, x110_8, x110_11, x110_21, gk_some, pk_some, qk_some, bnd_v, bnd_n, kl_int, kl_ref, kl_null, kl_un, Nat.reduceAdd, if_true, if_false, g0, List.getElem?_cons_zero, List.getElem?_cons_succ, rl, e, hv, decide_false, fit1, fit0, fitb, b2i_t, b2i_f, reduceIte, decide_true, decide_false, Bool.false_eq_true]
theorem q101n (k : QK h p pf L Fc) {v : Int32} (hv : ¬ isSt L v) : rcal 101 [.ref 32, .int v] (h, r) = some (.inr 0, hsx (h, r)) := by
  have rs := rv_of k.1.choose_spec.choose_spec.choose_spec.choose_spec.choose_spec.choose_spec.choose_spec r
  simp only [c101, x101_0, x101_1, x101_2, x101_5, x101_6, x101_9, x101_12, x101_13, x101_14, gk_some, pk_some, qk_some, bnd_v, bnd_n, kl_int, kl_ref, kl_null, kl_un, Nat.reduceAdd, if_true, if_false, rs, q109n r k hv, bnd_x 101 _ _ _ _ _ rfl]
theorem q102n (k : QK h p pf L Fc) {v : Int32} (hv : ¬ isSt L v) : rcal 102 [.ref 32, .int v] (h, r) = some (.inr 0, hsx (h, r)) := by
  have rs := rv_of k.1.choose_spec.choose_spec.choose_spec.choose_spec.choose_spec.choose_spec.choose_spec r
  simp only [c102, x102_0, x102_1, x102_2, x102_5, x102_6, x102_9, x102_10, x102_13, gk_some, pk_some, qk_some, bnd_v, bnd_n, kl_int, kl_ref, kl_null, kl_un, Nat.reduceAdd, if_true, if_false, rs, q109n r k hv, bnd_x 102 _ _ _ _ _ rfl]
theorem q103n (k : QK h p pf L Fc) {v : Int32} (hv : ¬ isSt L v) : rcal 103 [.ref 32, .int v] (h, r) = some (.inr 0, hsx (h, r)) := by
  have rs := rv_of k.1.choose_spec.choose_spec.choose_spec.choose_spec.choose_spec.choose_spec.choose_spec r
  simp only [c103, x103_0, x103_1, x103_2, x103_5, x103_6, x103_7, x103_8, x103_11, x103_14, x103_15, x103_16, x103_17, x103_19, x103_20, x103_22, x103_24, x103_26, x103_29, x103_30, x103_32, x103_33, x103_35, x103_37, x103_38, x103_41, x103_44, x103_47, x103_50, x103_53, x103_54, gk_some, pk_some, qk_some, bnd_v, bnd_n, kl_int, kl_ref, kl_null, kl_un, Nat.reduceAdd, if_true, if_false, rs, q109n r k hv, bnd_x 103 _ _ _ _ _ rfl]
theorem q104n (k : QK h p pf L Fc) {v : Int32} (hv : ¬ isSe L v) : rcal 104 [.ref 32, .int v] (h, r) = some (.inr 0, hsx (h, r)) := by
  have rs := rv_of k.1.choose_spec.choose_spec.choose_spec.choose_spec.choose_spec.choose_spec.choose_spec r
  simp only [c104, x104_0, x104_1, x104_2, x104_5, x104_6, x104_9, x104_12, x104_13, x104_14, gk_some, pk_some, qk_some, bnd_v, bnd_n, kl_int, kl_ref, kl_null, kl_un, Nat.reduceAdd, if_true, if_false, rs, q110n r k hv, bnd_x 104 _ _ _ _ _ rfl]
theorem q105n (k : QK h p pf L Fc) {v : Int32} (hv : ¬ isSe L v) : rcal 105 [.ref 32, .int v] (h, r) = some (.inr 0, hsx (h, r)) := by
  have rs := rv_of k.1.choose_spec.choose_spec.choose_spec.choose_spec.choose_spec.choose_spec.choose_spec r
  simp only [c105, x105_0, x105_1, x105_2, x105_5, x105_6, x105_9, x105_10, x105_13, x105_16, x105_17, x105_21, x105_13a, x105_20, gk_some, pk_some, qk_some, bnd_v, bnd_n, kl_int, kl_ref, kl_null, kl_un, Nat.reduceAdd, if_true, if_false, rs, q110n r k hv, bnd_x 105 _ _ _ _ _ rfl]
theorem q106n (k : QK h p pf L Fc) {v : Int32} (hv : ¬ isSe L v) : rcal 106 [.ref 32, .int v] (h, r) = some (.inr 0, hsx (h, r)) := by
  have rs := rv_of k.1.choose_spec.choose_spec.choose_spec.choose_spec.choose_spec.choose_spec.choose_spec r
  simp only [c106, x106_0, x106_1, x106_2, x106_5, x106_6, x106_9, x106_10, x106_13, x106_14, x106_14n, x106_15, x106_18, x106_15a, x106_28, x106_29, x106_32, x106_13a, gk_some, pk_some, qk_some, bnd_v, bnd_n, kl_int, kl_ref, kl_null, kl_un, Nat.reduceAdd, if_true, if_false, rs, q110n r k hv, bnd_x 106 _ _ _ _ _ rfl]
theorem q107n (k : QK h p pf L Fc) {v u : Int32} (hv : ¬ (isSt L v ∧ isSt L u)) : rcal 107 [.ref 32, .int v, .int u] (h, r) = some (.inr 0, hsx (h, r)) := by
  have rs := rv_of k.1.choose_spec.choose_spec.choose_spec.choose_spec.choose_spec.choose_spec.choose_spec r
  by_cases c : isSt L v
  · simp only [c107, x107_0, x107_1, x107_2, x107_5, x107_6, x107_7, x107_10, x107_11, x107_14, x107_15, x107_16, x107_19, gk_some, pk_some, qk_some, bnd_v, bnd_n, kl_int, kl_ref, kl_null, kl_un, Nat.reduceAdd, if_true, if_false, rs, q109 r k c, q109n r k (fun q => hv ⟨c, q⟩), bnd_x 107 _ _ _ _ _ rfl]
  · simp only [c107, x107_0, x107_1, x107_2, x107_5, x107_6, x107_7, x107_10, x107_11, x107_14, x107_15, x107_16, x107_19, gk_some, pk_some, qk_some, bnd_v, bnd_n, kl_int, kl_ref, kl_null, kl_un, Nat.reduceAdd, if_true, if_false, rs, q109n r k c, bnd_x 107 _ _ _ _ _ rfl]
theorem q108n (k : QK h p pf L Fc) {v u : Int32} (hv : ¬ (isSt L v ∧ isSt L u)) : rcal 108 [.ref 32, .int v, .int u] (h, r) = some (.inr 0, hsx (h, r)) := by
  have rs := rv_of k.1.choose_spec.choose_spec.choose_spec.choose_spec.choose_spec.choose_spec.choose_spec r
  by_cases c : isSt L v
  · simp only [c108, x108_0, x108_1, x108_2, x108_5, x108_6, x108_7, x108_10, x108_11, x108_14, x108_15, x108_16, x108_19, gk_some, pk_some, qk_some, bnd_v, bnd_n, kl_int, kl_ref, kl_null, kl_un, Nat.reduceAdd, if_true, if_false, rs, q109 r k c, q109n r k (fun q => hv ⟨c, q⟩), bnd_x 108 _ _ _ _ _ rfl]
  · simp only [c108, x108_0, x108_1, x108_2, x108_5, x108_6, x108_7, x108_10, x108_11, x108_14, x108_15, x108_16, x108_19, gk_some, pk_some, qk_some, bnd_v, bnd_n, kl_int, kl_ref, kl_null, kl_un, Nat.reduceAdd, if_true, if_false, rs, q109n r k c, bnd_x 108 _ _ _ _ _ rfl]
theorem q101 (k : QK h p pf L Fc) {v : Int32} (hv : isSt L v) : rcal 101 [.ref 32, .int v] (h, r) = some (.inl (some (.int (L.2.1 v.toNatClampNeg))), (h, r)) := by
  have k0 := k
  obtain ⟨⟨x1, x3, x4, x5, x6, x7, x8, e32⟩, ⟨hp, hpf, hdis⟩, ⟨lA, w⟩, ⟨lF, wF⟩, n, hn, h7⟩ := k
  replace lA : put h p L.1 L.2.1 L.2.2.1 L.2.2.2.1 L.2.2.2.2 = h := lA
  have g0 := gf_of e32 r 0
  have rl := rvL_of (L := L) r lA
  have rs := rv_of e32 r
  have v0 := hv.1
  have vn : v < I n := hn ▸ hv.2
  have hvn := nat_lt2 v0 vn h7
  have ra := ra1 h L.1 L.2.1 L.2.2.1 L.2.2.2.1 L.2.2.2.2 r (p := p) v0 (by omega)
  rw [lA] at ra
  simp only [c101, x101_0, x101_1, x101_2, x101_5, x101_6, x101_9, x101_12, x101_13, x101_14, gk_some, pk_some, qk_some, bnd_v, bnd_n, kl_int, kl_ref, kl_null, kl_un, Nat.reduceAdd, if_true, if_false, rs, q109 r k0 hv, g0, List.getElem?_cons_zero, List.getElem?_cons_succ, gq1 lA, ra]
theorem q102 (k : QK h p pf L Fc) {v : Int32} (hv : isSt L v) : rcal 102 [.ref 32, .int v] (h, r) = some (.inl (some (.int (freN L.2.1 L.2.2.2.2 v))), (h, r)) := by
  have k0 := k
  obtain ⟨⟨x1, x3, x4, x5, x6, x7, x8, e32⟩, ⟨hp, hpf, hdis⟩, ⟨lA, w⟩, ⟨lF, wF⟩, n, hn, h7⟩ := k
  replace lA : put h p L.1 L.2.1 L.2.2.1 L.2.2.2.1 L.2.2.2.2 = h := lA
  have g0 := gf_of e32 r 0
  have rl := rvL_of (L := L) r lA
  have rs := rv_of e32 r
  have v0 := hv.1
  have vn : v < I n := hn ▸ hv.2
  have hvn := nat_lt2 v0 vn h7
  have e := m60 h L.1 L.2.1 L.2.2.1 L.2.2.2.1 L.2.2.2.2 r (p := p) w hn h7 v0 vn
  rw [lA] at e
  simp only [c102, x102_0, x102_1, x102_2, x102_5, x102_6, x102_9, x102_10, x102_13, gk_some, pk_some, qk_some, bnd_v, bnd_n, kl_int, kl_ref, kl_null, kl_un, Nat.reduceAdd, if_true, if_false, rs, q109 r k0 hv, g0, List.getElem?_cons_zero, List.getElem?_cons_succ, rl, e]
theorem l103 {f tk rt ps : Nat → Int32} {S : List SL} (w : WS S) (v : Int32) (x : Value) : ∀ (R D : List SL) (i : Int32) (m : Nat) (z : Value), S = D ++ R → i = I D.length → rn 103 22 [x, .int v, .int (I m), .ref (p + 4), .int (I 6), .int i, z] [] (put h p f tk rt ps S, r) = some (.inl (some (.int (I (m + R.countP (staP v))))), (put h p f tk rt ps S, r)) := by
  intro R
  induction R with
  | nil =>
    intro D i m z hS hi
    have hl := end_ w hS
    rw [x103_22]
    simp only [x103_0, x103_1, x103_2, x103_5, x103_6, x103_7, x103_8, x103_11, x103_14, x103_15, x103_16, x103_17, x103_19, x103_20, x103_24, x103_26, x103_29, x103_30, x103_32, x103_33, x103_35, x103_37, x103_38, x103_41, x103_44, x103_47, x103_50, x103_53, x103_54, gk_some, pk_some, qk_some, bnd_v, bnd_n, kl_int, kl_ref, kl_null, kl_un, Nat.reduceAdd, if_true, if_false, hi, hl, nlt6, List.countP_nil, Nat.add_zero]
  | cons s R ih =>
    intro D i m z hS hi
    obtain ⟨h1, h2, h3, h4, h5⟩ := mid_ w hS
    have ha := at_mid h f tk rt ps S r (p := p) hS (by rw [w.1]; decide)
    have hm := m83 h f tk rt ps S r (p := p) h1 (by rw [h2]; exact h3) v
    have ih' := fun m z => ih (D ++ [s]) (I D.length + 1) m z (sub_ hS) (len_ D s)
    rw [x103_22, List.countP_cons]
    simp only [x103_0, x103_1, x103_2, x103_5, x103_6, x103_7, x103_8, x103_11, x103_14, x103_15, x103_16, x103_17, x103_19, x103_20, x103_24, x103_26, x103_29, x103_30, x103_32, x103_33, x103_35, x103_37, x103_38, x103_41, x103_44, x103_47, x103_50, x103_53, x103_54, gk_some, pk_some, qk_some, bnd_v, bnd_n, kl_int, kl_ref, kl_null, kl_un, Nat.reduceAdd, if_true, if_false, rvL, rvT, alL, ln1, ln2, ln3, h1, hi, h4, ha, hm, h2]
    by_cases e : s.2.1 = 3 ∧ s.2.2 6 = v
    · have e2 : staP v s = true := by simp [staP, e.1, e.2]
      simp only [e, and_self, decide_true, fit1, fit0, fitb, b2i_t, b2i_f, reduceIte, decide_true, decide_false, ne10, I_1 m, ih', e2]
      rw [Nat.add_right_comm]; rfl
    · have e2 : staP v s = false := by simpa [staP] using e
      simp only [e, decide_false, fit1, fit0, fitb, b2i_t, b2i_f, reduceIte, decide_true, decide_false, Bool.false_eq_true, ih', e2, Nat.add_zero]
theorem q103 (k : QK h p pf L Fc) {v : Int32} (hv : isSt L v) : rcal 103 [.ref 32, .int v] (h, r) = some (.inl (some (.int (I (L.2.2.2.2.countP (staP v))))), (h, r)) := by
  have k0 := k
  obtain ⟨⟨x1, x3, x4, x5, x6, x7, x8, e32⟩, ⟨hp, hpf, hdis⟩, ⟨lA, w⟩, ⟨lF, wF⟩, n, hn, h7⟩ := k
  replace lA : put h p L.1 L.2.1 L.2.2.1 L.2.2.2.1 L.2.2.2.2 = h := lA
  have g0 := gf_of e32 r 0
  have rl := rvL_of (L := L) r lA
  have rs := rv_of e32 r
  have v0 := hv.1
  have vn : v < I n := hn ▸ hv.2
  have hvn := nat_lt2 v0 vn h7
  have e := fun z => l103 (h := h) (p := p) r (f := L.1) (tk := L.2.1) (rt := L.2.2.1) (ps := L.2.2.2.1) w v (.ref 32) L.2.2.2.2 [] 0 0 z rfl rfl
  have al := alL h p L.1 L.2.1 L.2.2.1 L.2.2.2.1 L.2.2.2.2 r
  rw [lA] at al e
  rw [show I 0 = 0 from rfl, Nat.zero_add] at e
  simp only [c103, x103_0, x103_1, x103_2, x103_5, x103_6, x103_7, x103_8, x103_11, x103_14, x103_15, x103_16, x103_17, x103_19, x103_20, x103_24, x103_26, x103_29, x103_30, x103_32, x103_33, x103_35, x103_37, x103_38, x103_41, x103_44, x103_47, x103_50, x103_53, x103_54, gk_some, pk_some, qk_some, bnd_v, bnd_n, kl_int, kl_ref, kl_null, kl_un, Nat.reduceAdd, if_true, if_false, rs, q109 r k0 hv, g0, List.getElem?_cons_zero, List.getElem?_cons_succ, gq4 lA, al, w.1, e]
theorem q104 (k : QK h p pf L Fc) {v : Int32} (hv : isSe L v) : rcal 104 [.ref 32, .int v] (h, r) = some (.inl (some (.int (L.2.2.1 v.toNatClampNeg))), (h, r)) := by
  have k0 := k
  obtain ⟨⟨x1, x3, x4, x5, x6, x7, x8, e32⟩, ⟨hp, hpf, hdis⟩, ⟨lA, w⟩, ⟨lF, wF⟩, n, hn, h7⟩ := k
  replace lA : put h p L.1 L.2.1 L.2.2.1 L.2.2.2.1 L.2.2.2.2 = h := lA
  have g0 := gf_of e32 r 0
  have rl := rvL_of (L := L) r lA
  have rs := rv_of e32 r
  have v0 := hv.1
  have v6 : v.toNatClampNeg < 6 := by
    have v1 := hv.2
    rw [hn, Z_lt] at v1
    have h0 : 0 ≤ Z v := by have := v0; rw [Z_lt, Z_0] at this; omega
    have hz : Z (I n) = n := Z_I (by omega)
    have hz1 : Z (I n - 1) = n - 1 := by rw [Z_sub (by rw [hz, Z_1]; omega) (by rw [hz, Z_1]; omega), hz, Z_1]
    have := Z_nat h0
    omega
  have ra := ra2 h L.1 L.2.1 L.2.2.1 L.2.2.2.1 L.2.2.2.2 r (p := p) v0 (by omega)
  rw [lA] at ra
  simp only [c104, x104_0, x104_1, x104_2, x104_5, x104_6, x104_9, x104_12, x104_13, x104_14, gk_some, pk_some, qk_some, bnd_v, bnd_n, kl_int, kl_ref, kl_null, kl_un, Nat.reduceAdd, if_true, if_false, rs, q110 r k0 hv, g0, List.getElem?_cons_zero, List.getElem?_cons_succ, gq2 lA, ra]
theorem q105 (k : QK h p pf L Fc) {v : Int32} (hv : isSe L v) : rcal 105 [.ref 32, .int v] (h, r) = some (.inl (some (.int (b2i (L.2.2.2.2.find? (holP v)).isNone))), (h, r)) := by
  have k0 := k
  obtain ⟨⟨x1, x3, x4, x5, x6, x7, x8, e32⟩, ⟨hp, hpf, hdis⟩, ⟨lA, w⟩, ⟨lF, wF⟩, n, hn, h7⟩ := k
  replace lA : put h p L.1 L.2.1 L.2.2.1 L.2.2.2.1 L.2.2.2.2 = h := lA
  have g0 := gf_of e32 r 0
  have rl := rvL_of (L := L) r lA
  have rs := rv_of e32 r
  have e := m59 h L.1 L.2.1 L.2.2.1 L.2.2.2.1 L.2.2.2.2 r (p := p) w v
  rw [lA] at e
  cases ef : L.2.2.2.2.find? (holP v) with
  | none =>
    rw [ef] at e
    simp only [c105, x105_0, x105_1, x105_2, x105_5, x105_6, x105_9, x105_10, x105_13, x105_16, x105_17, x105_21, x105_13a, x105_20, gk_some, pk_some, qk_some, bnd_v, bnd_n, kl_int, kl_ref, kl_null, kl_un, Nat.reduceAdd, if_true, if_false, rs, q110 r k0 hv, g0, List.getElem?_cons_zero, List.getElem?_cons_succ, rl, e, refO, fit1, fit0, fitb, b2i_t, b2i_f, reduceIte, decide_true, decide_false, Option.isNone_none]
  | some s =>
    rw [ef] at e
    simp only [c105, x105_0, x105_1, x105_2, x105_5, x105_6, x105_9, x105_10, x105_13, x105_16, x105_17, x105_21, x105_13a, x105_20, gk_some, pk_some, qk_some, bnd_v, bnd_n, kl_int, kl_ref, kl_null, kl_un, Nat.reduceAdd, if_true, if_false, rs, q110 r k0 hv, g0, List.getElem?_cons_zero, List.getElem?_cons_succ, rl, e, refO, fit1, fit0, fitb, b2i_t, b2i_f, reduceIte, decide_true, decide_false, Option.isNone_some, Bool.false_eq_true]
theorem q106 (k : QK h p pf L Fc) {v : Int32} (hv : isSe L v) : rcal 106 [.ref 32, .int v] (h, r) = (match L.2.2.2.2.find? (holP v) with
    | none => some (.inr 3, hsx (h, r))
    | some s => some (.inl (some (.int (s.2.2 1))), (h, r))) := by
  have k0 := k
  obtain ⟨⟨x1, x3, x4, x5, x6, x7, x8, e32⟩, ⟨hp, hpf, hdis⟩, ⟨lA, w⟩, ⟨lF, wF⟩, n, hn, h7⟩ := k
  replace lA : put h p L.1 L.2.1 L.2.2.1 L.2.2.2.1 L.2.2.2.2 = h := lA
  have g0 := gf_of e32 r 0
  have rl := rvL_of (L := L) r lA
  have rs := rv_of e32 r
  have e := m59 h L.1 L.2.1 L.2.2.1 L.2.2.2.1 L.2.2.2.2 r (p := p) w v
  rw [lA] at e
  cases ef : L.2.2.2.2.find? (holP v) with
  | none =>
    rw [ef] at e
    simp only [c106, x106_0, x106_1, x106_2, x106_5, x106_6, x106_9, x106_10, x106_13, x106_14, x106_14n, x106_15, x106_18, x106_15a, x106_28, x106_29, x106_32, x106_13a, gk_some, pk_some, qk_some, bnd_v, bnd_n, kl_int, kl_ref, kl_null, kl_un, Nat.reduceAdd, if_true, if_false, rs, q110 r k0 hv, g0, List.getElem?_cons_zero, List.getElem?_cons_succ, rl, e, refO]
  | some s =>
    rw [ef] at e
    obtain ⟨h1, h2, hm⟩ := find_up w ef
    have t1 := tq1 lA r h1
    rw [h2] at t1
    simp only [c106, x106_0, x106_1, x106_2, x106_5, x106_6, x106_9, x106_10, x106_13, x106_14, x106_14n, x106_15, x106_18, x106_15a, x106_28, x106_29, x106_32, x106_13a, gk_some, pk_some, qk_some, bnd_v, bnd_n, kl_int, kl_ref, kl_null, kl_un, Nat.reduceAdd, if_true, if_false, rs, q110 r k0 hv, g0, List.getElem?_cons_zero, List.getElem?_cons_succ, rl, e, refO, t1]
theorem q107 (k : QK h p pf L Fc) {v u : Int32} (hv : isSt L v) (hu : isSt L u) : rcal 107 [.ref 32, .int v, .int u] (h, r) = some (.inl (some (.int (betw L.2.2.1 v.toNatClampNeg u.toNatClampNeg))), (h, r)) := by
  have k0 := k
  obtain ⟨⟨x1, x3, x4, x5, x6, x7, x8, e32⟩, ⟨hp, hpf, hdis⟩, ⟨lA, w⟩, ⟨lF, wF⟩, n, hn, h7⟩ := k
  replace lA : put h p L.1 L.2.1 L.2.2.1 L.2.2.2.1 L.2.2.2.2 = h := lA
  have g0 := gf_of e32 r 0
  have rl := rvL_of (L := L) r lA
  have rs := rv_of e32 r
  have v0 := hv.1
  have vn : v < I n := hn ▸ hv.2
  have hvn := nat_lt2 v0 vn h7
  have u0 := hu.1
  have un_ : u < I n := hn ▸ hu.2
  have hun := nat_lt2 u0 un_ h7
  have e := m61 h L.1 L.2.1 L.2.2.1 L.2.2.2.1 L.2.2.2.2 r (p := p) hn h7 hvn hun
  rw [lA, ← I_of v0, ← I_of u0] at e
  simp only [c107, x107_0, x107_1, x107_2, x107_5, x107_6, x107_7, x107_10, x107_11, x107_14, x107_15, x107_16, x107_19, gk_some, pk_some, qk_some, bnd_v, bnd_n, kl_int, kl_ref, kl_null, kl_un, Nat.reduceAdd, if_true, if_false, rs, q109 r k0 hv, q109 r k0 hu, g0, List.getElem?_cons_zero, List.getElem?_cons_succ, rl, e]
theorem q108 (k : QK h p pf L Fc) {v u : Int32} (hv : isSt L v) (hu : isSt L u) : rcal 108 [.ref 32, .int v, .int u] (h, r) = some (.inl (some (.int (psD L.2.2.2.1 v.toNatClampNeg u.toNatClampNeg))), (h, r)) := by
  have k0 := k
  obtain ⟨⟨x1, x3, x4, x5, x6, x7, x8, e32⟩, ⟨hp, hpf, hdis⟩, ⟨lA, w⟩, ⟨lF, wF⟩, n, hn, h7⟩ := k
  replace lA : put h p L.1 L.2.1 L.2.2.1 L.2.2.2.1 L.2.2.2.2 = h := lA
  have g0 := gf_of e32 r 0
  have rl := rvL_of (L := L) r lA
  have rs := rv_of e32 r
  have v0 := hv.1
  have vn : v < I n := hn ▸ hv.2
  have hvn := nat_lt2 v0 vn h7
  have u0 := hu.1
  have un_ : u < I n := hn ▸ hu.2
  have hun := nat_lt2 u0 un_ h7
  have e := m62 h L.1 L.2.1 L.2.2.1 L.2.2.2.1 L.2.2.2.2 r (p := p) hn h7 hvn hun
  rw [lA, ← I_of v0, ← I_of u0] at e
  simp only [c108, x108_0, x108_1, x108_2, x108_5, x108_6, x108_7, x108_10, x108_11, x108_14, x108_15, x108_16, x108_19, gk_some, pk_some, qk_some, bnd_v, bnd_n, kl_int, kl_ref, kl_null, kl_un, Nat.reduceAdd, if_true, if_false, rs, q109 r k0 hv, q109 r k0 hu, g0, List.getElem?_cons_zero, List.getElem?_cons_succ, rl, e]
end QUERY
