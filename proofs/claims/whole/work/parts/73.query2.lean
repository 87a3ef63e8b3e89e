/-! the class's queries about trains and totals -/
section QUERY2
variable {h : PH} {p pf : Nat} {L Fc : LN} (r : Nat × Nat × Nat)
theorem q124 (k : QK h p pf L Fc) {v : Int32} {s : SL} (hf : L.2.2.2.2.find? (fndP v) = some s) : rcal 124 [.ref 32, .int v] (h, r) = some (.inl (some (.ref (p + 5 + s.1))), (h, r)) := by
  have k0 := k
  obtain ⟨⟨x1, x3, x4, x5, x6, x7, x8, e32⟩, ⟨hp, hpf, hdis⟩, ⟨lA, w⟩, ⟨lF, wF⟩, n, hn, h7⟩ := k
  replace lA : put h p L.1 L.2.1 L.2.2.1 L.2.2.2.1 L.2.2.2.2 = h := lA
  have g0 := gf_of e32 r 0
  have rs := rv_of e32 r
  have rl := rvL_of (L := L) r lA
  have e := m58 h L.1 L.2.1 L.2.2.1 L.2.2.2.1 L.2.2.2.2 r (p := p) w v
  rw [lA] at e
  rw [hf] at e
  simp only [c124, x124_0, x124_1, x124_4, x124_5, x124_8, x124_9, x124_9n, x124_10, x124_13, x124_10a, x124_23, x124_23n, x124_24, x124_24a, x124_8a, gk_some, pk_some, qk_some, bnd_v, bnd_n, kl_int, kl_ref, kl_null, kl_un, Nat.reduceAdd, if_true, if_false, g0, List.getElem?_cons_zero, List.getElem?_cons_succ, rl, e, refO]
theorem q124n (k : QK h p pf L Fc) {v : Int32} (hf : L.2.2.2.2.find? (fndP v) = none) : rcal 124 [.ref 32, .int v] (h, r) = some (.inr 3, hsx (h, r)) := by
  have k0 := k
  obtain ⟨⟨x1, x3, x4, x5, x6, x7, x8, e32⟩, ⟨hp, hpf, hdis⟩, ⟨lA, w⟩, ⟨lF, wF⟩, n, hn, h7⟩ := k
  replace lA : put h p L.1 L.2.1 L.2.2.1 L.2.2.2.1 L.2.2.2.2 = h := lA
  have g0 := gf_of e32 r 0
  have rs := rv_of e32 r
  have rl := rvL_of (L := L) r lA
  have e := m58 h L.1 L.2.1 L.2.2.1 L.2.2.2.1 L.2.2.2.2 r (p := p) w v
  rw [lA] at e
  rw [hf] at e
  simp only [c124, x124_0, x124_1, x124_4, x124_5, x124_8, x124_9, x124_9n, x124_10, x124_13, x124_10a, x124_23, x124_23n, x124_24, x124_24a, x124_8a, gk_some, pk_some, qk_some, bnd_v, bnd_n, kl_int, kl_ref, kl_null, kl_un, Nat.reduceAdd, if_true, if_false, g0, List.getElem?_cons_zero, List.getElem?_cons_succ, rl, e, refO]
theorem q112 (k : QK h p pf L Fc) (v : Int32) : rcal 112 [.ref 32, .int v] (h, r) = some (.inl (some (.int (b2i (L.2.2.2.2.find? (fndP v)).isSome))), (h, r)) := by
  have k0 := k
  obtain ⟨⟨x1, x3, x4, x5, x6, x7, x8, e32⟩, ⟨hp, hpf, hdis⟩, ⟨lA, w⟩, ⟨lF, wF⟩, n, hn, h7⟩ := k
  replace lA : put h p L.1 L.2.1 L.2.2.1 L.2.2.2.1 L.2.2.2.2 = h := lA
  have g0 := gf_of e32 r 0
  have rs := rv_of e32 r
  have rl := rvL_of (L := L) r lA
  have e := m58 h L.1 L.2.1 L.2.2.1 L.2.2.2.1 L.2.2.2.2 r (p := p) w v
  rw [lA] at e
  cases ef : L.2.2.2.2.find? (fndP v) with
  | none =>
    rw [ef] at e
    simp only [c112, x112_0, x112_1, x112_4, x112_5, x112_8, x112_15, x112_16, x112_8a, x112_11, x112_12, gk_some, pk_some, qk_some, bnd_v, bnd_n, kl_int, kl_ref, kl_null, kl_un, Nat.reduceAdd, if_true, if_false, g0, List.getElem?_cons_zero, List.getElem?_cons_succ, rl, e, refO, fit1, fit0, fitb, b2i_t, b2i_f, reduceIte, decide_true, decide_false, Option.isSome_none, Bool.false_eq_true]
  | some s =>
    rw [ef] at e
    simp only [c112, x112_0, x112_1, x112_4, x112_5, x112_8, x112_15, x112_16, x112_8a, x112_11, x112_12, gk_some, pk_some, qk_some, bnd_v, bnd_n, kl_int, kl_ref, kl_null, kl_un, Nat.reduceAdd, if_true, if_false, g0, List.getElem?_cons_zero, List.getElem?_cons_succ, rl, e, refO, fit1, fit0, fitb, b2i_t, b2i_f, reduceIte, decide_true, decide_false, Option.isSome_some]
theorem q113n (k : QK h p pf L Fc) {v : Int32} (hf : L.2.2.2.2.find? (fndP v) = none) : rcal 113 [.ref 32, .int v] (h, r) = some (.inr 3, hsx (h, r)) := by
  have k0 := k
  obtain ⟨⟨x1, x3, x4, x5, x6, x7, x8, e32⟩, ⟨hp, hpf, hdis⟩, ⟨lA, w⟩, ⟨lF, wF⟩, n, hn, h7⟩ := k
  replace lA : put h p L.1 L.2.1 L.2.2.1 L.2.2.2.1 L.2.2.2.2 = h := lA
  have g0 := gf_of e32 r 0
  have rs := rv_of e32 r
  have rl := rvL_of (L := L) r lA
  simp only [c113, x113_0, x113_1, x113_2, x113_5, x113_8, x113_11, x113_14, x113_15, x113_19, x113_18, gk_some, pk_some, qk_some, bnd_v, bnd_n, kl_int, kl_ref, kl_null, kl_un, Nat.reduceAdd, if_true, if_false, rs, q124n r k0 hf, bnd_x 113 _ _ _ _ _ rfl]
theorem q114n (k : QK h p pf L Fc) {v : Int32} (hf : L.2.2.2.2.find? (fndP v) = none) : rcal 114 [.ref 32, .int v] (h, r) = some (.inr 3, hsx (h, r)) := by
  have k0 := k
  obtain ⟨⟨x1, x3, x4, x5, x6, x7, x8, e32⟩, ⟨hp, hpf, hdis⟩, ⟨lA, w⟩, ⟨lF, wF⟩, n, hn, h7⟩ := k
  replace lA : put h p L.1 L.2.1 L.2.2.1 L.2.2.2.1 L.2.2.2.2 = h := lA
  have g0 := gf_of e32 r 0
  have rs := rv_of e32 r
  have rl := rvL_of (L := L) r lA
  simp only [c114, x114_0, x114_1, x114_2, x114_5, x114_8, gk_some, pk_some, qk_some, bnd_v, bnd_n, kl_int, kl_ref, kl_null, kl_un, Nat.reduceAdd, if_true, if_false, rs, q124n r k0 hf, bnd_x 114 _ _ _ _ _ rfl]
theorem q115n (k : QK h p pf L Fc) {v : Int32} (hf : L.2.2.2.2.find? (fndP v) = none) : rcal 115 [.ref 32, .int v] (h, r) = some (.inr 3, hsx (h, r)) := by
  have k0 := k
  obtain ⟨⟨x1, x3, x4, x5, x6, x7, x8, e32⟩, ⟨hp, hpf, hdis⟩, ⟨lA, w⟩, ⟨lF, wF⟩, n, hn, h7⟩ := k
  replace lA : put h p L.1 L.2.1 L.2.2.1 L.2.2.2.1 L.2.2.2.2 = h := lA
  have g0 := gf_of e32 r 0
  have rs := rv_of e32 r
  have rl := rvL_of (L := L) r lA
  simp only [c115, x115_0, x115_1, x115_2, x115_5, x115_6, x115_7, x115_10, x115_13, x115_16, x115_26, x115_27, x115_30, gk_some, pk_some, qk_some, bnd_v, bnd_n, kl_int, kl_ref, kl_null, kl_un, Nat.reduceAdd, if_true, if_false, rs, q124n r k0 hf, bnd_x 115 _ _ _ _ _ rfl]
theorem q118n (k : QK h p pf L Fc) {v : Int32} (hf : L.2.2.2.2.find? (fndP v) = none) : rcal 118 [.ref 32, .int v] (h, r) = some (.inr 3, hsx (h, r)) := by
  have k0 := k
  obtain ⟨⟨x1, x3, x4, x5, x6, x7, x8, e32⟩, ⟨hp, hpf, hdis⟩, ⟨lA, w⟩, ⟨lF, wF⟩, n, hn, h7⟩ := k
  replace lA : put h p L.1 L.2.1 L.2.2.1 L.2.2.2.1 L.2.2.2.2 = h := lA
  have g0 := gf_of e32 r 0
  have rs := rv_of e32 r
  have rl := rvL_of (L := L) r lA
  simp only [c118, x118_0, x118_1, x118_2, x118_5, x118_8, gk_some, pk_some, qk_some, bnd_v, bnd_n, kl_int, kl_ref, kl_null, kl_un, Nat.reduceAdd, if_true, if_false, rs, q124n r k0 hf, bnd_x 118 _ _ _ _ _ rfl]
theorem q119n (k : QK h p pf L Fc) {v : Int32} (hf : L.2.2.2.2.find? (fndP v) = none) : rcal 119 [.ref 32, .int v] (h, r) = some (.inr 3, hsx (h, r)) := by
  have k0 := k
  obtain ⟨⟨x1, x3, x4, x5, x6, x7, x8, e32⟩, ⟨hp, hpf, hdis⟩, ⟨lA, w⟩, ⟨lF, wF⟩, n, hn, h7⟩ := k
  replace lA : put h p L.1 L.2.1 L.2.2.1 L.2.2.2.1 L.2.2.2.2 = h := lA
  have g0 := gf_of e32 r 0
  have rs := rv_of e32 r
  have rl := rvL_of (L := L) r lA
  simp only [c119, x119_0, x119_1, x119_2, x119_5, x119_8, gk_some, pk_some, qk_some, bnd_v, bnd_n, kl_int, kl_ref, kl_null, kl_un, Nat.reduceAdd, if_true, if_false, rs, q124n r k0 hf, bnd_x 119 _ _ _ _ _ rfl]
theorem q120n (k : QK h p pf L Fc) {v : Int32} (hf : L.2.2.2.2.find? (fndP v) = none) : rcal 120 [.ref 32, .int v] (h, r) = some (.inr 3, hsx (h, r)) := by
  have k0 := k
  obtain ⟨⟨x1, x3, x4, x5, x6, x7, x8, e32⟩, ⟨hp, hpf, hdis⟩, ⟨lA, w⟩, ⟨lF, wF⟩, n, hn, h7⟩ := k
  replace lA : put h p L.1 L.2.1 L.2.2.1 L.2.2.2.1 L.2.2.2.2 = h := lA
  have g0 := gf_of e32 r 0
  have rs := rv_of e32 r
  have rl := rvL_of (L := L) r lA
  simp only [c120, x120_0, x120_1, x120_2, x120_5, x120_6, x120_7, x120_10, x120_11, x120_14, x120_17, x120_27, x120_28, x120_31, x120_32, x120_35, x120_36, x120_39, x120_40, x120_43, x120_44, x120_47, gk_some, pk_some, qk_some, bnd_v, bnd_n, kl_int, kl_ref, kl_null, kl_un, Nat.reduceAdd, if_true, if_false, rs, q124n r k0 hf, bnd_x 120 _ _ _ _ _ rfl]
theorem q121n (k : QK h p pf L Fc) {v : Int32} (hf : L.2.2.2.2.find? (fndP v) = none) : rcal 121 [.ref 32, .int v] (h, r) = some (.inr 3, hsx (h, r)) := by
  have k0 := k
  obtain ⟨⟨x1, x3, x4, x5, x6, x7, x8, e32⟩, ⟨hp, hpf, hdis⟩, ⟨lA, w⟩, ⟨lF, wF⟩, n, hn, h7⟩ := k
  replace lA : put h p L.1 L.2.1 L.2.2.1 L.2.2.2.1 L.2.2.2.2 = h := lA
  have g0 := gf_of e32 r 0
  have rs := rv_of e32 r
  have rl := rvL_of (L := L) r lA
  simp only [c121, x121_0, x121_1, x121_2, x121_5, x121_6, x121_7, x121_10, x121_11, x121_14, x121_17, x121_18, x121_21, x121_22, x121_25, x121_26, x121_27, x121_28, x121_31, x121_41, x121_42, gk_some, pk_some, qk_some, bnd_v, bnd_n, kl_int, kl_ref, kl_null, kl_un, Nat.reduceAdd, if_true, if_false, rs, q124n r k0 hf, bnd_x 121 _ _ _ _ _ rfl]
theorem q125n (k : QK h p pf L Fc) {v : Int32} (hf : L.2.2.2.2.find? (fndP v) = none) : rcal 125 [.ref 32, .int v] (h, r) = some (.inr 3, hsx (h, r)) := by
  have k0 := k
  obtain ⟨⟨x1, x3, x4, x5, x6, x7, x8, e32⟩, ⟨hp, hpf, hdis⟩, ⟨lA, w⟩, ⟨lF, wF⟩, n, hn, h7⟩ := k
  replace lA : put h p L.1 L.2.1 L.2.2.1 L.2.2.2.1 L.2.2.2.2 = h := lA
  have g0 := gf_of e32 r 0
  have rs := rv_of e32 r
  have rl := rvL_of (L := L) r lA
  simp only [c125, x125_0, x125_1, x125_2, x125_5, x125_6, x125_7, x125_10, x125_13, x125_16, x125_26, x125_27, gk_some, pk_some, qk_some, bnd_v, bnd_n, kl_int, kl_ref, kl_null, kl_un, Nat.reduceAdd, if_true, if_false, rs, q124n r k0 hf, bnd_x 125 _ _ _ _ _ rfl]
theorem q116n (k : QK h p pf L Fc) {v : Int32} (hf : L.2.2.2.2.find? (fndP v) = none) : rcal 116 [.ref 32, .int v] (h, r) = some (.inr 3, hsx (h, r)) := by
  have k0 := k
  obtain ⟨⟨x1, x3, x4, x5, x6, x7, x8, e32⟩, ⟨hp, hpf, hdis⟩, ⟨lA, w⟩, ⟨lF, wF⟩, n, hn, h7⟩ := k
  replace lA : put h p L.1 L.2.1 L.2.2.1 L.2.2.2.1 L.2.2.2.2 = h := lA
  have g0 := gf_of e32 r 0
  have rs := rv_of e32 r
  have rl := rvL_of (L := L) r lA
  simp only [c116, x116_0, x116_1, x116_2, x116_5, x116_8, gk_some, pk_some, qk_some, bnd_v, bnd_n, kl_int, kl_ref, kl_null, kl_un, Nat.reduceAdd, if_true, if_false, rs, q125n r k0 hf, bnd_x 116 _ _ _ _ _ rfl]
theorem q117n (k : QK h p pf L Fc) {v : Int32} (hf : L.2.2.2.2.find? (fndP v) = none) : rcal 117 [.ref 32, .int v] (h, r) = some (.inr 3, hsx (h, r)) := by
  have k0 := k
  obtain ⟨⟨x1, x3, x4, x5, x6, x7, x8, e32⟩, ⟨hp, hpf, hdis⟩, ⟨lA, w⟩, ⟨lF, wF⟩, n, hn, h7⟩ := k
  replace lA : put h p L.1 L.2.1 L.2.2.1 L.2.2.2.1 L.2.2.2.2 = h := lA
  have g0 := gf_of e32 r 0
  have rs := rv_of e32 r
  have rl := rvL_of (L := L) r lA
  simp only [c117, x117_0, x117_1, x117_2, x117_5, x117_8, gk_some, pk_some, qk_some, bnd_v, bnd_n, kl_int, kl_ref, kl_null, kl_un, Nat.reduceAdd, if_true, if_false, rs, q125n r k0 hf, bnd_x 117 _ _ _ _ _ rfl]
theorem q113 (k : QK h p pf L Fc) {v : Int32} {s : SL} (hf : L.2.2.2.2.find? (fndP v) = some s) : rcal 113 [.ref 32, .int v] (h, r) = some (.inl (some (.int (b2i (decide (s.2.1 = 2))))), (h, r)) := by
  have k0 := k
  obtain ⟨⟨x1, x3, x4, x5, x6, x7, x8, e32⟩, ⟨hp, hpf, hdis⟩, ⟨lA, w⟩, ⟨lF, wF⟩, n, hn, h7⟩ := k
  replace lA : put h p L.1 L.2.1 L.2.2.1 L.2.2.2.1 L.2.2.2.2 = h := lA
  have g0 := gf_of e32 r 0
  have rs := rv_of e32 r
  have rl := rvL_of (L := L) r lA
  obtain ⟨h1, h2, hm⟩ := find_up w hf
  have hpl := w.2.2.1 s hm
  have t0 := tq0 lA r h1
  rw [h2] at t0
  simp only [c113, x113_0, x113_1, x113_2, x113_5, x113_8, x113_11, x113_14, x113_15, x113_19, x113_18, gk_some, pk_some, qk_some, bnd_v, bnd_n, kl_int, kl_ref, kl_null, kl_un, Nat.reduceAdd, if_true, if_false, rs, q124 r k0 hf, t0, req_pl hpl (by decide : 1 ≤ 2 ∧ 2 ≤ 4)]
  by_cases e : s.2.1 = 2
  · simp only [e, fit1, fit0, fitb, b2i_t, b2i_f, reduceIte, decide_true, decide_false]
  · simp only [e, fit1, fit0, fitb, b2i_t, b2i_f, reduceIte, decide_true, decide_false, Bool.false_eq_true]
theorem q114 (k : QK h p pf L Fc) {v : Int32} {s : SL} (hf : L.2.2.2.2.find? (fndP v) = some s) : rcal 114 [.ref 32, .int v] (h, r) = some (.inl (some (.int (s.2.2 9))), (h, r)) := by
  have k0 := k
  obtain ⟨⟨x1, x3, x4, x5, x6, x7, x8, e32⟩, ⟨hp, hpf, hdis⟩, ⟨lA, w⟩, ⟨lF, wF⟩, n, hn, h7⟩ := k
  replace lA : put h p L.1 L.2.1 L.2.2.1 L.2.2.2.1 L.2.2.2.2 = h := lA
  have g0 := gf_of e32 r 0
  have rs := rv_of e32 r
  have rl := rvL_of (L := L) r lA
  obtain ⟨h1, h2, hm⟩ := find_up w hf
  have hpl := w.2.2.1 s hm
  have t0 := tq0 lA r h1
  rw [h2] at t0
  have t9 := tq9 lA r h1
  rw [h2] at t9
  simp only [c114, x114_0, x114_1, x114_2, x114_5, x114_8, gk_some, pk_some, qk_some, bnd_v, bnd_n, kl_int, kl_ref, kl_null, kl_un, Nat.reduceAdd, if_true, if_false, rs, q124 r k0 hf, t9, w.2.2.2.2 s hm, reduceIte]
theorem q118 (k : QK h p pf L Fc) {v : Int32} {s : SL} (hf : L.2.2.2.2.find? (fndP v) = some s) : rcal 118 [.ref 32, .int v] (h, r) = some (.inl (some (.int (s.2.2 10))), (h, r)) := by
  have k0 := k
  obtain ⟨⟨x1, x3, x4, x5, x6, x7, x8, e32⟩, ⟨hp, hpf, hdis⟩, ⟨lA, w⟩, ⟨lF, wF⟩, n, hn, h7⟩ := k
  replace lA : put h p L.1 L.2.1 L.2.2.1 L.2.2.2.1 L.2.2.2.2 = h := lA
  have g0 := gf_of e32 r 0
  have rs := rv_of e32 r
  have rl := rvL_of (L := L) r lA
  obtain ⟨h1, h2, hm⟩ := find_up w hf
  have hpl := w.2.2.1 s hm
  have t0 := tq0 lA r h1
  rw [h2] at t0
  have t9 := tq10 lA r h1
  rw [h2] at t9
  simp only [c118, x118_0, x118_1, x118_2, x118_5, x118_8, gk_some, pk_some, qk_some, bnd_v, bnd_n, kl_int, kl_ref, kl_null, kl_un, Nat.reduceAdd, if_true, if_false, rs, q124 r k0 hf, t9]
theorem q119 (k : QK h p pf L Fc) {v : Int32} {s : SL} (hf : L.2.2.2.2.find? (fndP v) = some s) : rcal 119 [.ref 32, .int v] (h, r) = some (.inl (some (.int (s.2.2 5))), (h, r)) := by
  have k0 := k
  obtain ⟨⟨x1, x3, x4, x5, x6, x7, x8, e32⟩, ⟨hp, hpf, hdis⟩, ⟨lA, w⟩, ⟨lF, wF⟩, n, hn, h7⟩ := k
  replace lA : put h p L.1 L.2.1 L.2.2.1 L.2.2.2.1 L.2.2.2.2 = h := lA
  have g0 := gf_of e32 r 0
  have rs := rv_of e32 r
  have rl := rvL_of (L := L) r lA
  obtain ⟨h1, h2, hm⟩ := find_up w hf
  have hpl := w.2.2.1 s hm
  have t0 := tq0 lA r h1
  rw [h2] at t0
  have t9 := tq5 lA r h1
  rw [h2] at t9
  simp only [c119, x119_0, x119_1, x119_2, x119_5, x119_8, gk_some, pk_some, qk_some, bnd_v, bnd_n, kl_int, kl_ref, kl_null, kl_un, Nat.reduceAdd, if_true, if_false, rs, q124 r k0 hf, t9]
theorem q115 (k : QK h p pf L Fc) {v : Int32} {s : SL} (hf : L.2.2.2.2.find? (fndP v) = some s) : rcal 115 [.ref 32, .int v] (h, r) = (if s.2.1 = 3 then some (.inl (some (.int (s.2.2 6))), (h, r)) else some (.inr 2, hsx (h, r))) := by
  have k0 := k
  obtain ⟨⟨x1, x3, x4, x5, x6, x7, x8, e32⟩, ⟨hp, hpf, hdis⟩, ⟨lA, w⟩, ⟨lF, wF⟩, n, hn, h7⟩ := k
  replace lA : put h p L.1 L.2.1 L.2.2.1 L.2.2.2.1 L.2.2.2.2 = h := lA
  have g0 := gf_of e32 r 0
  have rs := rv_of e32 r
  have rl := rvL_of (L := L) r lA
  obtain ⟨h1, h2, hm⟩ := find_up w hf
  have hpl := w.2.2.1 s hm
  have t0 := tq0 lA r h1
  rw [h2] at t0
  have t6 := tq6 lA r h1
  rw [h2] at t6
  simp only [c115, x115_0, x115_1, x115_2, x115_5, x115_6, x115_7, x115_10, x115_13, x115_16, x115_26, x115_27, x115_30, gk_some, pk_some, qk_some, bnd_v, bnd_n, kl_int, kl_ref, kl_null, kl_un, Nat.reduceAdd, if_true, if_false, rs, q124 r k0 hf, t0, req_pl hpl (by decide : 1 ≤ 3 ∧ 3 ≤ 4)]
  by_cases e : s.2.1 = 3
  · simp only [e, fit1, fit0, fitb, b2i_t, b2i_f, reduceIte, decide_true, decide_false, x115_0, x115_1, x115_2, x115_5, x115_6, x115_7, x115_10, x115_13, x115_16, x115_26, x115_27, x115_30, gk_some, pk_some, qk_some, bnd_v, bnd_n, kl_int, kl_ref, kl_null, kl_un, Nat.reduceAdd, if_true, if_false, t6]
  · simp only [e, fit1, fit0, fitb, b2i_t, b2i_f, reduceIte, decide_true, decide_false, Bool.false_eq_true]
theorem q125 (k : QK h p pf L Fc) {v : Int32} {s : SL} (hf : L.2.2.2.2.find? (fndP v) = some s) : rcal 125 [.ref 32, .int v] (h, r) = (if s.2.1 = 4 then some (.inl (some (.ref (p + 5 + s.1))), (h, r)) else some (.inr 2, hsx (h, r))) := by
  have k0 := k
  obtain ⟨⟨x1, x3, x4, x5, x6, x7, x8, e32⟩, ⟨hp, hpf, hdis⟩, ⟨lA, w⟩, ⟨lF, wF⟩, n, hn, h7⟩ := k
  replace lA : put h p L.1 L.2.1 L.2.2.1 L.2.2.2.1 L.2.2.2.2 = h := lA
  have g0 := gf_of e32 r 0
  have rs := rv_of e32 r
  have rl := rvL_of (L := L) r lA
  obtain ⟨h1, h2, hm⟩ := find_up w hf
  have hpl := w.2.2.1 s hm
  have t0 := tq0 lA r h1
  rw [h2] at t0
  simp only [c125, x125_0, x125_1, x125_2, x125_5, x125_6, x125_7, x125_10, x125_13, x125_16, x125_26, x125_27, gk_some, pk_some, qk_some, bnd_v, bnd_n, kl_int, kl_ref, kl_null, kl_un, Nat.reduceAdd, if_true, if_false, rs, q124 r k0 hf, t0, req_pl hpl (by decide : 1 ≤ 4 ∧ 4 ≤ 4)]
  by_cases e : s.2.1 = 4
  · simp only [e, fit1, fit0, fitb, b2i_t, b2i_f, reduceIte, decide_true, decide_false]
  · simp only [e, fit1, fit0, fitb, b2i_t, b2i_f, reduceIte, decide_true, decide_false, Bool.false_eq_true]
theorem q116 (k : QK h p pf L Fc) {v : Int32} {s : SL} (hf : L.2.2.2.2.find? (fndP v) = some s) : rcal 116 [.ref 32, .int v] (h, r) = (if s.2.1 = 4 then some (.inl (some (.int (s.2.2 7))), (h, r)) else some (.inr 2, hsx (h, r))) := by
  have k0 := k
  obtain ⟨⟨x1, x3, x4, x5, x6, x7, x8, e32⟩, ⟨hp, hpf, hdis⟩, ⟨lA, w⟩, ⟨lF, wF⟩, n, hn, h7⟩ := k
  replace lA : put h p L.1 L.2.1 L.2.2.1 L.2.2.2.1 L.2.2.2.2 = h := lA
  have g0 := gf_of e32 r 0
  have rs := rv_of e32 r
  have rl := rvL_of (L := L) r lA
  obtain ⟨h1, h2, hm⟩ := find_up w hf
  have hpl := w.2.2.1 s hm
  have t0 := tq0 lA r h1
  rw [h2] at t0
  have t6 := tq7 lA r h1
  rw [h2] at t6
  by_cases e : s.2.1 = 4
  · have e125 := q125 r k0 hf
    rw [if_pos e] at e125
    simp only [c116, x116_0, x116_1, x116_2, x116_5, x116_8, gk_some, pk_some, qk_some, bnd_v, bnd_n, kl_int, kl_ref, kl_null, kl_un, Nat.reduceAdd, if_true, if_false, rs, e125, t6, if_pos e]
  · have e125 := q125 r k0 hf
    rw [if_neg e] at e125
    simp only [c116, x116_0, x116_1, x116_2, x116_5, x116_8, gk_some, pk_some, qk_some, bnd_v, bnd_n, kl_int, kl_ref, kl_null, kl_un, Nat.reduceAdd, if_true, if_false, rs, e125, if_neg e, bnd_x 116 _ _ _ _ _ rfl]
theorem q117 (k : QK h p pf L Fc) {v : Int32} {s : SL} (hf : L.2.2.2.2.find? (fndP v) = some s) : rcal 117 [.ref 32, .int v] (h, r) = (if s.2.1 = 4 then some (.inl (some (.int (s.2.2 8))), (h, r)) else some (.inr 2, hsx (h, r))) := by
  have k0 := k
  obtain ⟨⟨x1, x3, x4, x5, x6, x7, x8, e32⟩, ⟨hp, hpf, hdis⟩, ⟨lA, w⟩, ⟨lF, wF⟩, n, hn, h7⟩ := k
  replace lA : put h p L.1 L.2.1 L.2.2.1 L.2.2.2.1 L.2.2.2.2 = h := lA
  have g0 := gf_of e32 r 0
  have rs := rv_of e32 r
  have rl := rvL_of (L := L) r lA
  obtain ⟨h1, h2, hm⟩ := find_up w hf
  have hpl := w.2.2.1 s hm
  have t0 := tq0 lA r h1
  rw [h2] at t0
  have t6 := tq8 lA r h1
  rw [h2] at t6
  by_cases e : s.2.1 = 4
  · have e125 := q125 r k0 hf
    rw [if_pos e] at e125
    simp only [c117, x117_0, x117_1, x117_2, x117_5, x117_8, gk_some, pk_some, qk_some, bnd_v, bnd_n, kl_int, kl_ref, kl_null, kl_un, Nat.reduceAdd, if_true, if_false, rs, e125, t6, if_pos e]
  · have e125 := q125 r k0 hf
    rw [if_neg e] at e125
    simp only [c117, x117_0, x117_1, x117_2, x117_5, x117_8, gk_some, pk_some, qk_some, bnd_v, bnd_n, kl_int, kl_ref, kl_null, kl_un, Nat.reduceAdd, if_true, if_false, rs, e125, if_neg e, bnd_x 117 _ _ _ _ _ rfl]
/-- some have finished -/
theorem q134 (k : QK h p pf L Fc) (hf : 0 < L.1 8) : rcal 134 [.ref 32] (h, r) = some (.inl none, (h, r)) := by
  have k0 := k
  obtain ⟨⟨x1, x3, x4, x5, x6, x7, x8, e32⟩, ⟨hp, hpf, hdis⟩, ⟨lA, w⟩, ⟨lF, wF⟩, n, hn, h7⟩ := k
  replace lA : put h p L.1 L.2.1 L.2.2.1 L.2.2.2.1 L.2.2.2.2 = h := lA
  have g0 := gf_of e32 r 0
  have rs := rv_of e32 r
  have rl := rvL_of (L := L) r lA
  simp only [c134, x134_0, x134_1, x134_4, x134_7, x134_10, x134_21, gk_some, pk_some, qk_some, bnd_v, bnd_n, kl_int, kl_ref, kl_null, kl_un, Nat.reduceAdd, if_true, if_false, g0, List.getElem?_cons_zero, List.getElem?_cons_succ, gq8 lA, hf]
theorem q134n (k : QK h p pf L Fc) (hf : ¬ 0 < L.1 8) : rcal 134 [.ref 32] (h, r) = some (.inr 3, hsx (h, r)) := by
  have k0 := k
  obtain ⟨⟨x1, x3, x4, x5, x6, x7, x8, e32⟩, ⟨hp, hpf, hdis⟩, ⟨lA, w⟩, ⟨lF, wF⟩, n, hn, h7⟩ := k
  replace lA : put h p L.1 L.2.1 L.2.2.1 L.2.2.2.1 L.2.2.2.2 = h := lA
  have g0 := gf_of e32 r 0
  have rs := rv_of e32 r
  have rl := rvL_of (L := L) r lA
  simp only [c134, x134_0, x134_1, x134_4, x134_7, x134_10, x134_21, gk_some, pk_some, qk_some, bnd_v, bnd_n, kl_int, kl_ref, kl_null, kl_un, Nat.reduceAdd, if_true, if_false, g0, List.getElem?_cons_zero, List.getElem?_cons_succ, gq8 lA, hf]
theorem q128 (k : QK h p pf L Fc) (hf : 0 < L.1 8) : rcal 128 [.ref 32] (h, r) = some (.inl (some (.int (L.1 9))), (h, r)) := by
  have k0 := k
  obtain ⟨⟨x1, x3, x4, x5, x6, x7, x8, e32⟩, ⟨hp, hpf, hdis⟩, ⟨lA, w⟩, ⟨lF, wF⟩, n, hn, h7⟩ := k
  replace lA : put h p L.1 L.2.1 L.2.2.1 L.2.2.2.1 L.2.2.2.2 = h := lA
  have g0 := gf_of e32 r 0
  have rs := rv_of e32 r
  have rl := rvL_of (L := L) r lA
  simp only [c128, x128_0, x128_1, x128_4, x128_5, x128_8, x128_11, gk_some, pk_some, qk_some, bnd_v, bnd_n, kl_int, kl_ref, kl_null, kl_un, Nat.reduceAdd, if_true, if_false, rs, q134 r k0 hf, g0, List.getElem?_cons_zero, List.getElem?_cons_succ, gq9 lA]
theorem q128n (k : QK h p pf L Fc) (hf : ¬ 0 < L.1 8) : rcal 128 [.ref 32] (h, r) = some (.inr 3, hsx (h, r)) := by
  have k0 := k
  obtain ⟨⟨x1, x3, x4, x5, x6, x7, x8, e32⟩, ⟨hp, hpf, hdis⟩, ⟨lA, w⟩, ⟨lF, wF⟩, n, hn, h7⟩ := k
  replace lA : put h p L.1 L.2.1 L.2.2.1 L.2.2.2.1 L.2.2.2.2 = h := lA
  have g0 := gf_of e32 r 0
  have rs := rv_of e32 r
  have rl := rvL_of (L := L) r lA
  simp only [c128, x128_0, x128_1, x128_4, x128_5, x128_8, x128_11, gk_some, pk_some, qk_some, bnd_v, bnd_n, kl_int, kl_ref, kl_null, kl_un, Nat.reduceAdd, if_true, if_false, rs, q134n r k0 hf, bnd_x 128 _ _ _ _ _ rfl]
theorem q130 (k : QK h p pf L Fc) (hf : 0 < L.1 8) : rcal 130 [.ref 32] (h, r) = some (.inl (some (.int (L.1 11))), (h, r)) := by
  have k0 := k
  obtain ⟨⟨x1, x3, x4, x5, x6, x7, x8, e32⟩, ⟨hp, hpf, hdis⟩, ⟨lA, w⟩, ⟨lF, wF⟩, n, hn, h7⟩ := k
  replace lA : put h p L.1 L.2.1 L.2.2.1 L.2.2.2.1 L.2.2.2.2 = h := lA
  have g0 := gf_of e32 r 0
  have rs := rv_of e32 r
  have rl := rvL_of (L := L) r lA
  simp only [c130, x130_0, x130_1, x130_4, x130_5, x130_8, x130_11, gk_some, pk_some, qk_some, bnd_v, bnd_n, kl_int, kl_ref, kl_null, kl_un, Nat.reduceAdd, if_true, if_false, rs, q134 r k0 hf, g0, List.getElem?_cons_zero, List.getElem?_cons_succ, gq11 lA]
theorem q130n (k : QK h p pf L Fc) (hf : ¬ 0 < L.1 8) : rcal 130 [.ref 32] (h, r) = some (.inr 3, hsx (h, r)) := by
  have k0 := k
  obtain ⟨⟨x1, x3, x4, x5, x6, x7, x8, e32⟩, ⟨hp, hpf, hdis⟩, ⟨lA, w⟩, ⟨lF, wF⟩, n, hn, h7⟩ := k
  replace lA : put h p L.1 L.2.1 L.2.2.1 L.2.2.2.1 L.2.2.2.2 = h := lA
  have g0 := gf_of e32 r 0
  have rs := rv_of e32 r
  have rl := rvL_of (L := L) r lA
  simp only [c130, x130_0, x130_1, x130_4, x130_5, x130_8, x130_11, gk_some, pk_some, qk_some, bnd_v, bnd_n, kl_int, kl_ref, kl_null, kl_un, Nat.reduceAdd, if_true, if_false, rs, q134n r k0 hf, bnd_x 130 _ _ _ _ _ rfl]
theorem q131 (k : QK h p pf L Fc) (hf : 0 < L.1 8) (hd : FP.ddiv (FP.l2d (L.1 10).toInt64) (FP.i2d (L.1 8)) &&& 0x7fffffffffffffff ≤ 0x7ff0000000000000) : rcal 131 [.ref 32] (h, r) = some (.inl (some (.double (FP.ddiv (FP.l2d (L.1 10).toInt64) (FP.i2d (L.1 8))))), (h, r)) := by
  have k0 := k
  obtain ⟨⟨x1, x3, x4, x5, x6, x7, x8, e32⟩, ⟨hp, hpf, hdis⟩, ⟨lA, w⟩, ⟨lF, wF⟩, n, hn, h7⟩ := k
  replace lA : put h p L.1 L.2.1 L.2.2.1 L.2.2.2.1 L.2.2.2.2 = h := lA
  have g0 := gf_of e32 r 0
  have rs := rv_of e32 r
  have rl := rvL_of (L := L) r lA
  simp only [c131, x131_0, x131_1, x131_4, x131_7, x131_10, x131_21, x131_22, x131_25, x131_28, x131_29, x131_30, x131_33, x131_36, x131_37, x131_38, gk_some, pk_some, qk_some, bnd_v, bnd_n, kl_int, kl_ref, kl_null, kl_un, Nat.reduceAdd, if_true, if_false, g0, List.getElem?_cons_zero, List.getElem?_cons_succ, gq8 lA, gq10 lA, hf, hd]
theorem q131n (k : QK h p pf L Fc) (hf : ¬ 0 < L.1 8) : rcal 131 [.ref 32] (h, r) = some (.inr 4, hsx (h, r)) := by
  have k0 := k
  obtain ⟨⟨x1, x3, x4, x5, x6, x7, x8, e32⟩, ⟨hp, hpf, hdis⟩, ⟨lA, w⟩, ⟨lF, wF⟩, n, hn, h7⟩ := k
  replace lA : put h p L.1 L.2.1 L.2.2.1 L.2.2.2.1 L.2.2.2.2 = h := lA
  have g0 := gf_of e32 r 0
  have rs := rv_of e32 r
  have rl := rvL_of (L := L) r lA
  simp only [c131, x131_0, x131_1, x131_4, x131_7, x131_10, x131_21, x131_22, x131_25, x131_28, x131_29, x131_30, x131_33, x131_36, x131_37, x131_38, gk_some, pk_some, qk_some, bnd_v, bnd_n, kl_int, kl_ref, kl_null, kl_un, Nat.reduceAdd, if_true, if_false, g0, List.getElem?_cons_zero, List.getElem?_cons_succ, gq8 lA, hf]
theorem q132 (k : QK h p pf L Fc) (hf : 0 < L.1 8) (hd : FP.fdiv (FP.i2f (L.1 12)) (FP.i2f (L.1 8)) &&& 0x7fffffff ≤ 0x7f800000) : rcal 132 [.ref 32] (h, r) = some (.inl (some (.float (FP.fdiv (FP.i2f (L.1 12)) (FP.i2f (L.1 8))))), (h, r)) := by
  have k0 := k
  obtain ⟨⟨x1, x3, x4, x5, x6, x7, x8, e32⟩, ⟨hp, hpf, hdis⟩, ⟨lA, w⟩, ⟨lF, wF⟩, n, hn, h7⟩ := k
  replace lA : put h p L.1 L.2.1 L.2.2.1 L.2.2.2.1 L.2.2.2.2 = h := lA
  have g0 := gf_of e32 r 0
  have rs := rv_of e32 r
  have rl := rvL_of (L := L) r lA
  simp only [c132, x132_0, x132_1, x132_4, x132_7, x132_10, x132_21, x132_22, x132_25, x132_28, x132_29, x132_30, x132_33, x132_36, x132_37, x132_38, gk_some, pk_some, qk_some, bnd_v, bnd_n, kl_int, kl_ref, kl_null, kl_un, Nat.reduceAdd, if_true, if_false, g0, List.getElem?_cons_zero, List.getElem?_cons_succ, gq8 lA, gq12 lA, hf, hd]
theorem q132n (k : QK h p pf L Fc) (hf : ¬ 0 < L.1 8) : rcal 132 [.ref 32] (h, r) = some (.inr 4, hsx (h, r)) := by
  have k0 := k
  obtain ⟨⟨x1, x3, x4, x5, x6, x7, x8, e32⟩, ⟨hp, hpf, hdis⟩, ⟨lA, w⟩, ⟨lF, wF⟩, n, hn, h7⟩ := k
  replace lA : put h p L.1 L.2.1 L.2.2.1 L.2.2.2.1 L.2.2.2.2 = h := lA
  have g0 := gf_of e32 r 0
  have rs := rv_of e32 r
  have rl := rvL_of (L := L) r lA
  simp only [c132, x132_0, x132_1, x132_4, x132_7, x132_10, x132_21, x132_22, x132_25, x132_28, x132_29, x132_30, x132_33, x132_36, x132_37, x132_38, gk_some, pk_some, qk_some, bnd_v, bnd_n, kl_int, kl_ref, kl_null, kl_un, Nat.reduceAdd, if_true, if_false, g0, List.getElem?_cons_zero, List.getElem?_cons_succ, gq8 lA, hf]
/-- the place of a train in the ranking -/
def rnkN (S : List SL) (t : TR) : Int32 := S.foldl (fun n s => if bef t s = true then n + 1 else n) 0
def rkF (S : List SL) (v : Int32) (s : SL) : Bool := decide (s.2.1 ≠ 1) && decide (rnkN S s.2 = v)
theorem l123 (k : QK h p pf L Fc) (v : Int32) : ∀ (R D : List SL) (i : Int32) (z : Value), L.2.2.2.2 = D ++ R → i = I D.length → rn 123 14 [.ref 32, .int v, .ref (p + 4), .int (I 6), .int i, z] [] (h, r) = (match R.find? (rkF L.2.2.2.2 v) with
    | none => some (.inr 3, hsx (h, r))
    | some s => some (.inl (some (.int (s.2.2 1))), (h, r))) := by
  have k0 := k
  obtain ⟨⟨x1, x3, x4, x5, x6, x7, x8, e32⟩, ⟨hp, hpf, hdis⟩, ⟨lA, w⟩, ⟨lF, wF⟩, n, hn, h7⟩ := k
  replace lA : put h p L.1 L.2.1 L.2.2.1 L.2.2.2.1 L.2.2.2.2 = h := lA
  have g0 := gf_of e32 r 0
  have rs := rv_of e32 r
  have rl := rvL_of (L := L) r lA
  intro R
  induction R with
  | nil =>
    intro D i z hS hi
    have hl := end_ w hS
    rw [x123_14]
    simp only [x123_0, x123_1, x123_4, x123_7, x123_8, x123_9, x123_10, x123_11, x123_12, x123_16, x123_17, x123_20, x123_21, x123_23, x123_24, x123_26, x123_28, x123_31, x123_34, x123_35, x123_38, x123_40, x123_43, x123_44, x123_47, x123_49, x123_52, x123_53, x123_56, x123_59, gk_some, pk_some, qk_some, bnd_v, bnd_n, kl_int, kl_ref, kl_null, kl_un, Nat.reduceAdd, if_true, if_false, hi, hl, nlt6, List.find?_nil]
  | cons s R ih =>
    intro D i z hS hi
    obtain ⟨h1, h2, h3, h4, h5⟩ := mid_ w hS
    have ha := at_mid h L.1 L.2.1 L.2.2.1 L.2.2.2.1 L.2.2.2.2 r (p := p) hS (by rw [w.1]; decide)
    have hm := m82 h L.1 L.2.1 L.2.2.1 L.2.2.2.1 L.2.2.2.2 r (p := p) h1 (by rw [h2]; exact h3)
    have hk := m64 h L.1 L.2.1 L.2.2.1 L.2.2.2.1 L.2.2.2.2 r (p := p) w h1
    have hv := rvT h p L.1 L.2.1 L.2.2.1 L.2.2.2.1 L.2.2.2.2 r h1
    rw [lA] at ha hm hk hv
    have t1 := tq1 lA r h1
    rw [h2] at hm hk t1
    have ih' := fun z => ih (D ++ [s]) (I D.length + 1) z (sub_ hS) (len_ D s)
    rw [x123_14, List.find?_cons]
    simp only [x123_0, x123_1, x123_4, x123_7, x123_8, x123_9, x123_10, x123_11, x123_12, x123_16, x123_17, x123_20, x123_21, x123_23, x123_24, x123_26, x123_28, x123_31, x123_34, x123_35, x123_38, x123_40, x123_43, x123_44, x123_47, x123_49, x123_52, x123_53, x123_56, x123_59, gk_some, pk_some, qk_some, bnd_v, bnd_n, kl_int, kl_ref, kl_null, kl_un, Nat.reduceAdd, if_true, if_false, hi, h4, ha, hv, hm, g0, List.getElem?_cons_zero, List.getElem?_cons_succ, rl, hk]
    by_cases e : s.2.1 = 1
    · have e2 : rkF L.2.2.2.2 v s = false := by simp [rkF, e]
      simp only [e, fit1, fit0, fitb, b2i_t, b2i_f, reduceIte, decide_true, decide_false, ne_eq, not_true_eq_false, Bool.false_eq_true, e2, ih']
    · by_cases e3 : rnkN L.2.2.2.2 s.2 = v
      · have e2 : rkF L.2.2.2.2 v s = true := by simp [rkF, e, e3]
        have e3' : L.2.2.2.2.foldl (fun n o => if bef s.2 o = true then n + 1 else n) 0 = v := e3
        simp only [e, fit1, fit0, fitb, b2i_t, b2i_f, reduceIte, decide_true, decide_false, ne_eq, not_false_eq_true, ne10, e3', e2, x123_0, x123_1, x123_4, x123_7, x123_8, x123_9, x123_10, x123_11, x123_12, x123_16, x123_17, x123_20, x123_21, x123_23, x123_24, x123_26, x123_28, x123_31, x123_34, x123_35, x123_38, x123_40, x123_43, x123_44, x123_47, x123_49, x123_52, x123_53, x123_56, x123_59, gk_some, pk_some, qk_some, bnd_v, bnd_n, kl_int, kl_ref, kl_null, kl_un, Nat.reduceAdd, if_true, if_false, t1]
      · have e2 : rkF L.2.2.2.2 v s = false := by simp [rkF, e3]
        have e3' : ¬ L.2.2.2.2.foldl (fun n o => if bef s.2 o = true then n + 1 else n) 0 = v := e3
        simp only [e, fit1, fit0, fitb, b2i_t, b2i_f, reduceIte, decide_true, decide_false, ne_eq, not_false_eq_true, ne10, e3', e2, ih']
theorem q123 (k : QK h p pf L Fc) (v : Int32) : rcal 123 [.ref 32, .int v] (h, r) = (match L.2.2.2.2.find? (rkF L.2.2.2.2 v) with
    | none => some (.inr 3, hsx (h, r))
    | some s => some (.inl (some (.int (s.2.2 1))), (h, r))) := by
  have k0 := k
  obtain ⟨⟨x1, x3, x4, x5, x6, x7, x8, e32⟩, ⟨hp, hpf, hdis⟩, ⟨lA, w⟩, ⟨lF, wF⟩, n, hn, h7⟩ := k
  replace lA : put h p L.1 L.2.1 L.2.2.1 L.2.2.2.1 L.2.2.2.2 = h := lA
  have g0 := gf_of e32 r 0
  have rs := rv_of e32 r
  have rl := rvL_of (L := L) r lA
  have e := l123 r k0 v L.2.2.2.2 [] 0 un rfl rfl
  have al := alL h p L.1 L.2.1 L.2.2.1 L.2.2.2.1 L.2.2.2.2 r
  rw [lA, w.1] at al
  simp only [c123, x123_0, x123_1, x123_4, x123_7, x123_8, x123_9, x123_10, x123_11, x123_12, x123_16, x123_17, x123_20, x123_21, x123_23, x123_24, x123_26, x123_28, x123_31, x123_34, x123_35, x123_38, x123_40, x123_43, x123_44, x123_47, x123_49, x123_52, x123_53, x123_56, x123_59, gk_some, pk_some, qk_some, bnd_v, bnd_n, kl_int, kl_ref, kl_null, kl_un, Nat.reduceAdd, if_true, if_false, g0, List.getElem?_cons_zero, List.getElem?_cons_succ, gq4 lA, al, e]
end QUERY2
