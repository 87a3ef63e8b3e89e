/-! the class writes its line -/
def nbW (s : SL) : List Int32 := dgts (s.2.2 1).toNatClampNeg (tpd (s.2.2 1).toNatClampNeg 8 0)
def trW : List SL → Bool → List Int32
  | [], _ => []
  | s :: R, b => (if b = true then [] else [44]) ++ (nbW s ++ trW R false)
def stW (L : LN) (v : Int32) : List Int32 := [91] ++ (trW (L.2.2.2.2.filter (staP v)) true ++ [93])
def seW (L : LN) (v : Int32) : List Int32 := match L.2.2.2.2.find? (holP v) with
  | none => [45]
  | some s => [if 0 < stp_ s.2 then 62 else 60] ++ nbW s
def clW (L : LN) : Nat → Nat → List Int32
  | 0, _ => []
  | fu + 1, k => (if 0 < k then seW L (I (k - 1)) else []) ++ (stW L (I k) ++ clW L fu (k + 1))
/-- a train's number is small -/
def nbK (s : SL) : Prop := ∃ m, s.2.2 1 = I m ∧ m < 1000
theorem tpd_3 {m : Nat} (h : m < 1000) : tpd m 8 0 ≤ 2 := by
  unfold tpd
  split
  · unfold tpd
    split
    · unfold tpd
      rw [if_neg (by omega)]; omega
    · omega
  · omega
theorem nbW_of {s : SL} {m : Nat} (e : s.2.2 1 = I m) (h : m < 1000) : nbW s = dgts m (tpd m 8 0) := by
  unfold nbW; rw [e, I_nat (by omega)]
theorem nbW_len {s : SL} (k : nbK s) : (nbW s).length ≤ 3 := by
  obtain ⟨m, e, h⟩ := k
  rw [nbW_of e h, dgts_len]
  have := tpd_3 h
  omega
theorem trW_len : ∀ (R : List SL) (b : Bool), (∀ s, s ∈ R → nbK s) → (trW R b).length ≤ 4 * R.length
  | [], _, _ => Nat.le_refl _
  | s :: R, b, h => by
    have h1 := nbW_len (h s List.mem_cons_self)
    have h2 := trW_len R false (fun t ht => h t (List.mem_cons_of_mem _ ht))
    have h3 : (if b = true then ([] : List Int32) else [44]).length ≤ 1 := by split <;> decide
    rw [trW, List.length_append, List.length_append, List.length_cons]
    omega
/-- the output is cs, the rest of the heap as in h0 -/
def OS (h0 : PH) (f : Nat → Int32) (cs : List Int32) (c s : Nat) (H : HS) : Prop := ∃ h i B x, H = (sput h i cs.length B x, rS c s i) ∧ Fg h0 h ∧ i ≤ 3 ∧ cs.length ≤ capN i ∧ Eqv cs.length B (wr f 0 cs)
section OS
variable {h0 : PH} {f : Nat → Int32} {cs : List Int32} {c s : Nat} {H : HS}
theorem OS_at (o : OS h0 f cs c s H) {b : Nat} (h1 : b ≠ 170) (h2 : b ≠ 171) (h3 : b < 186) : H.1 b = h0 b := by
  obtain ⟨h, i, B, x, e, fg, -, -, -⟩ := o
  subst e
  show sput h i cs.length B x b = _
  rw [sput_o _ _ _ _ _ h1 (by unfold bAd; split <;> omega)]
  exact fg b h2 h3
theorem OS_rv (o : OS h0 f cs c s H) : recv H 170 6 = true := by
  obtain ⟨h, i, B, x, e, -, -, -, -⟩ := o
  subst e
  exact rvS ..
theorem OS_wr (o : OS h0 f cs c s H) (k : Nat) (a : Value) (cs' : List Int32) (w : ∀ h i B x, i ≤ 3 → cs.length ≤ capN i → Fg h0 h → SBW k a h i cs.length B x c s cs') : ∃ H', rcal k [.ref 170, a] H = some (.inl (some (.ref 170)), H') ∧ OS h0 f (cs ++ cs') c s H' := by
  obtain ⟨h, i, B, x, e, fg, i3, le, eq⟩ := o
  subst e
  obtain ⟨h1, i', B', w1, w2, w3, w4, w5⟩ := w h i B x i3 le fg
  refine ⟨_, w5, h1, i', B', x, ?_, Fg_tr fg w1, w2, ?_, ?_⟩
  · rw [List.length_append]
  · rw [List.length_append]; exact w3
  · have z := w4 _ eq
    rw [List.length_append, wr_app, Nat.zero_add]
    exact z
theorem OS_c (o : OS h0 f cs c s H) (hl : cs.length + 1 ≤ 142) {v : Int32} (hv : sgK v) : ∃ H', rcal 19 [.ref 170, .int v] H = some (.inl (some (.ref 170)), H') ∧ OS h0 f (cs ++ [v]) c s H' :=
  OS_wr o 19 (.int v) [v] (fun h i B x i3 le _ => sb_c h i cs.length B x c s i3 le hl hv)
theorem OS_n (o : OS h0 f cs c s H) (ck : CK h0) (hl : cs.length + 9 ≤ 142) {m : Nat} (hm : m < 1000000000) : ∃ H', rcal 20 [.ref 170, .int (I m)] H = some (.inl (some (.ref 170)), H') ∧ OS h0 f (cs ++ dgts m (tpd m 8 0)) c s H' :=
  OS_wr o 20 (.int (I m)) _ (fun h i B x i3 le fg => sb_n h i cs.length B x c s i3 le (CK_Fg ck fg) hm hl)
theorem OS_0 {n : Nat} {B : Nat → Int32} {i : Nat} {x : Int32} (i3 : i ≤ 3) (hn : n ≤ 142) (f : Nat → Int32) : ∃ H', rcal 22 [.ref 170, .int 0] (sput h0 i n B x, rS c s i) = some (.inl none, H') ∧ OS h0 f [] c s H' := by
  obtain ⟨x', e⟩ := m22S h0 i n B x c s i3 hn
  exact ⟨_, e, h0, i, B, x', rfl, Fg_rf h0, i3, Nat.zero_le _, fun k hk => absurd hk (Nat.not_lt_zero k)⟩
theorem OS_len (o : OS h0 f cs c s H) : rcal 23 [.ref 170] H = some (.inl (some (.int (I cs.length))), H) := by
  obtain ⟨h, i, B, x, e, -, -, -, -⟩ := o
  subst e
  exact m23S ..
end OS
/-- the class's line at p, its output at 170 -/
def WK (h : PH) (p : Nat) (L : LN) : Prop := (∃ x1 x2 x3 x4 x6 x7 x8, h 32 = some (0, [.ref p, x1, x2, x3, x4, .ref 170, x6, x7, x8])) ∧ (33 ≤ p ∧ p + 11 ≤ 167) ∧ (LAt h p L ∧ WS L.2.2.2.2) ∧ CK h ∧ ∃ n, L.1 0 = I n ∧ n ≤ 7
theorem AK_WK {h : PH} {L Sv Fc : LN} {Hs : Nat → LN} {nx ct : Nat} {sv er fa : Int32} (k : AK h L Sv Fc Hs nx ct sv er fa) {n : Nat} (hn : L.1 0 = I n) (h7 : n ≤ 7) : WK h 33 L := by
  obtain ⟨z0, l33, l44, l55, z66, z67, lh, ck, n9, c8⟩ := k
  exact ⟨⟨_, _, _, _, _, _, _, z0⟩, ⟨by decide, by decide⟩, l33, ck, n, hn, h7⟩
theorem WK_OS {h0 : PH} {p : Nat} {L : LN} {f : Nat → Int32} {cs : List Int32} {c s : Nat} {H : HS} (w : WK h0 p L) (o : OS h0 f cs c s H) : WK H.1 p L := by
  obtain ⟨⟨x1, x2, x3, x4, x6, x7, x8, e⟩, hp, ⟨l, ws⟩, ck, n⟩ := w
  refine ⟨⟨x1, x2, x3, x4, x6, x7, x8, ?_⟩, hp, ⟨LAt_frame l ws (fun b b1 b2 => OS_at o (by omega) (by omega) (by omega)), ws⟩, fun b b1 b2 => ?_, n⟩
  · rw [OS_at o (by decide) (by decide) (by decide)]; exact e
  · rw [OS_at o (by omega) (by omega) (by omega)]; exact ck b b1 b2
theorem sg_ck : sgK 91 ∧ sgK 93 ∧ sgK 44 ∧ sgK 45 ∧ sgK 60 ∧ sgK 62 ∧ sgK 58 ∧ sgK 64 ∧ sgK 33 ∧ sgK 43 := by
  unfold sgK
  decide +kernel
theorem gfH {H : HS} {a ci : Nat} {fs : List Value} (e : H.1 a = some (ci, fs)) (k : Nat) : gfd H ci k a = fs[k]? := gf_of e H.2 k
theorem rvH {H : HS} {a ci : Nat} {fs : List Value} (e : H.1 a = some (ci, fs)) : recv H a ci = true := rv_of e H.2
section WCLS
variable {h0 : PH} {p : Nat} {L : LN} {f : Nat → Int32} {c s : Nat}
theorem l143 (w0 : WK h0 p L) {v : Int32} (hN : ∀ t, t ∈ L.2.2.2.2 → staP v t = true → nbK t) : ∀ (R D : List SL) (b : Bool) (cs : List Int32) (H : HS) (z : Value), L.2.2.2.2 = D ++ R → OS h0 f cs c s H → cs.length + 4 * (R.filter (staP v)).length ≤ 130 → ∃ H', rn 143 27 [.ref 32, .int v, .int (b2i b), .ref (p + 4), .int (I 6), .int (I D.length), z] [] H = some (.inl none, H') ∧ OS h0 f (cs ++ (trW (R.filter (staP v)) b ++ [93])) c s H' := by
  intro R
  induction R with
  | nil =>
    intro D b cs H z hS o hl
    obtain ⟨⟨x1, x2, x3, x4, x6, x7, x8, e⟩, hp, ⟨l, ws⟩, ck, n⟩ := WK_OS w0 o
    have hD := end_ ws hS
    obtain ⟨H', e1, o1⟩ := OS_c o (by simp at hl; omega) sg_ck.2.1
    have g5 := gfH (H := H) e 5
    refine ⟨H', ?_, o1⟩
    rw [x143_27]
    simp only [x143_0, x143_1, x143_4, x143_6, x143_9, x143_10, x143_11, x143_12, x143_13, x143_16, x143_19, x143_20, x143_21, x143_22, x143_24, x143_25, x143_29, x143_31, x143_34, x143_35, x143_37, x143_38, x143_40, x143_42, x143_43, x143_46, x143_49, x143_50, x143_53, x143_54, x143_57, x143_59, x143_62, x143_63, x143_64, x143_67, x143_69, x143_72, x143_75, x143_76, x143_77, x143_78, x143_81, x143_84, x143_85, x143_88, x143_90, x143_93, x143_94, gk_some, pk_some, qk_some, bnd_v, bnd_n, kl_int, kl_ref, kl_null, kl_un, Nat.reduceAdd, if_true, if_false, hD, nlt6, g5, List.getElem?_cons_zero, List.getElem?_cons_succ, OS_rv o, e1]
  | cons t R ih =>
    intro D b cs H z hS o hl
    obtain ⟨⟨x1, x2, x3, x4, x6, x7, x8, e⟩, hp, ⟨l, ws⟩, ck, n⟩ := WK_OS w0 o
    replace l : put H.1 p L.1 L.2.1 L.2.2.1 L.2.2.2.1 L.2.2.2.2 = H.1 := l
    obtain ⟨h1, h2, h3, h4, h5⟩ := mid_ ws hS
    have g5 := gfH (H := H) e 5
    have ha := at_mid H.1 L.1 L.2.1 L.2.2.1 L.2.2.2.1 L.2.2.2.2 H.2 (p := p) hS (by rw [ws.1]; decide)
    have hm := m83 H.1 L.1 L.2.1 L.2.2.1 L.2.2.2.1 L.2.2.2.2 H.2 (p := p) h1 (by rw [h2]; exact h3) v
    have rt := rvT H.1 p L.1 L.2.1 L.2.2.1 L.2.2.2.1 L.2.2.2.2 H.2 h1
    rw [l] at ha hm rt
    rw [h2] at hm
    change aald H (p + 4) _ = _ at ha
    change rcal 83 _ H = some (_, H) at hm
    change recv H (p + 5 + t.1) 2 = true at rt
    by_cases c3 : t.2.1 = 3 ∧ t.2.2 6 = v
    · have e2 : staP v t = true := by simp [staP, c3.1, c3.2]
      rw [List.filter_cons_of_pos e2] at hl ⊢
      rw [List.length_cons] at hl
      obtain ⟨m, m1, m2⟩ := hN t (by rw [hS]; simp) e2
      have hnl := nbW_len ⟨m, m1, m2⟩
      have hnw := nbW_of m1 m2
      cases b with
      | true =>
        obtain ⟨H1, e1, o1⟩ := OS_n o w0.2.2.2.1 (by omega) (m := m) (by omega)
        obtain ⟨H', e3, o3⟩ := ih (D ++ [t]) false (cs ++ dgts m (tpd m 8 0)) H1 (.ref (p + 5 + t.1)) (sub_ hS) o1 (by rw [List.length_append, ← hnw]; omega)
        refine ⟨H', ?_, ?_⟩
        · have gt := gt1 H.1 p L.1 L.2.1 L.2.2.1 L.2.2.2.1 L.2.2.2.2 H.2 h1
          rw [l, h2, m1] at gt
          change gfd H 2 1 _ = _ at gt
          have n1 : ¬ (1 : Int32) = 0 := by decide
          rw [← len_] at e3
          rw [b2i_f] at e3
          rw [x143_27]
          simp only [x143_0, x143_1, x143_4, x143_6, x143_9, x143_10, x143_11, x143_12, x143_13, x143_16, x143_19, x143_20, x143_21, x143_22, x143_24, x143_25, x143_29, x143_31, x143_34, x143_35, x143_37, x143_38, x143_40, x143_42, x143_43, x143_46, x143_49, x143_50, x143_53, x143_54, x143_57, x143_59, x143_62, x143_63, x143_64, x143_67, x143_69, x143_72, x143_75, x143_76, x143_77, x143_78, x143_81, x143_85, x143_88, x143_90, x143_93, x143_94, gk_some, pk_some, qk_some, bnd_v, bnd_n, kl_int, kl_ref, kl_null, kl_un, Nat.reduceAdd, if_true, if_false, h4, ha, rt, hm, c3, and_self, decide_true, b2i_t, n1, g5, List.getElem?_cons_zero, List.getElem?_cons_succ, gt, OS_rv o, e1, e3]
        · rw [trW, if_pos rfl, hnw, List.nil_append, List.append_assoc, ← List.append_assoc]
          exact o3
      | false =>
        obtain ⟨H0, e0, o0⟩ := OS_c o (by omega) sg_ck.2.2.1
        obtain ⟨H1, e1, o1⟩ := OS_n o0 w0.2.2.2.1 (by rw [List.length_append, List.length_singleton]; omega) (m := m) (by omega)
        obtain ⟨H', e3, o3⟩ := ih (D ++ [t]) false (cs ++ [44] ++ dgts m (tpd m 8 0)) H1 (.ref (p + 5 + t.1)) (sub_ hS) o1 (by rw [List.length_append, List.length_append, List.length_singleton, ← hnw]; omega)
        refine ⟨H', ?_, ?_⟩
        · obtain ⟨⟨y1, y2, y3, y4, y6, y7, y8, ye⟩, -, ⟨yl, -⟩, -, -⟩ := WK_OS w0 o0
          have gy := gfH (H := H0) ye 5
          have gt := gt1 H0.1 p L.1 L.2.1 L.2.2.1 L.2.2.2.1 L.2.2.2.2 H0.2 h1
          rw [show put H0.1 p L.1 L.2.1 L.2.2.1 L.2.2.2.1 L.2.2.2.2 = H0.1 from yl, h2, m1] at gt
          change gfd H0 2 1 _ = _ at gt
          have n1 : ¬ (1 : Int32) = 0 := by decide
          rw [← len_] at e3
          rw [b2i_f] at e3
          rw [x143_27]
          simp only [x143_0, x143_1, x143_4, x143_6, x143_9, x143_10, x143_11, x143_12, x143_13, x143_16, x143_19, x143_20, x143_21, x143_22, x143_24, x143_25, x143_29, x143_31, x143_34, x143_35, x143_37, x143_38, x143_40, x143_42, x143_43, x143_46, x143_49, x143_50, x143_53, x143_54, x143_57, x143_59, x143_62, x143_63, x143_64, x143_67, x143_69, x143_72, x143_75, x143_76, x143_77, x143_78, x143_81, x143_85, x143_88, x143_90, x143_93, x143_94, gk_some, pk_some, qk_some, bnd_v, bnd_n, kl_int, kl_ref, kl_null, kl_un, Nat.reduceAdd, if_true, if_false, h4, ha, rt, hm, c3, and_self, decide_true, b2i_t, b2i_f, n1, g5, List.getElem?_cons_zero, List.getElem?_cons_succ, OS_rv o, e0, gy, gt, OS_rv o0, e1, e3]
        · rw [trW, if_neg (by decide), hnw]
          simp only [List.append_assoc] at o3 ⊢
          exact o3
    · have e2 : ¬ staP v t = true := by
        unfold staP
        simp only [Bool.and_eq_true, decide_eq_true_eq]
        exact c3
      rw [List.filter_cons_of_neg e2] at hl ⊢
      obtain ⟨H', e3, o3⟩ := ih (D ++ [t]) b cs H (.ref (p + 5 + t.1)) (sub_ hS) o hl
      refine ⟨H', ?_, o3⟩
      rw [← len_] at e3
      rw [x143_27]
      simp only [x143_0, x143_1, x143_4, x143_6, x143_9, x143_10, x143_11, x143_12, x143_13, x143_16, x143_19, x143_20, x143_21, x143_22, x143_24, x143_25, x143_29, x143_31, x143_34, x143_35, x143_37, x143_38, x143_40, x143_42, x143_43, x143_46, x143_49, x143_50, x143_53, x143_54, x143_57, x143_59, x143_62, x143_63, x143_64, x143_67, x143_69, x143_72, x143_75, x143_76, x143_77, x143_78, x143_81, x143_85, x143_88, x143_90, x143_93, x143_94, gk_some, pk_some, qk_some, bnd_v, bnd_n, kl_int, kl_ref, kl_null, kl_un, Nat.reduceAdd, if_true, if_false, h4, ha, rt, hm, c3, decide_false, b2i_f, e3]
theorem w143 (w0 : WK h0 p L) {v : Int32} (hN : ∀ t, t ∈ L.2.2.2.2 → staP v t = true → nbK t) {cs : List Int32} {H : HS} (o : OS h0 f cs c s H) (hl : cs.length + 1 + 4 * (L.2.2.2.2.filter (staP v)).length ≤ 130) : ∃ H', rcal 143 [.ref 32, .int v] H = some (.inl none, H') ∧ OS h0 f (cs ++ stW L v) c s H' := by
  obtain ⟨⟨x1, x2, x3, x4, x6, x7, x8, e⟩, hp, ⟨l, ws⟩, ck, n⟩ := WK_OS w0 o
  have g5 := gfH (H := H) e 5
  obtain ⟨H0, e0, o0⟩ := OS_c o (by omega) sg_ck.1
  obtain ⟨⟨y1, y2, y3, y4, y6, y7, y8, ye⟩, -, ⟨yl, -⟩, -, -⟩ := WK_OS w0 o0
  have gy := gfH (H := H0) ye 0
  obtain ⟨H', e3, o3⟩ := l143 w0 hN L.2.2.2.2 [] true (cs ++ [91]) H0 un rfl o0 (by rw [List.length_append, List.length_singleton]; omega)
  have al := alL H0.1 p L.1 L.2.1 L.2.2.1 L.2.2.2.1 L.2.2.2.2 H0.2
  have gl := gq4 (show put H0.1 p L.1 L.2.1 L.2.2.1 L.2.2.2.1 L.2.2.2.2 = H0.1 from yl) H0.2
  rw [show put H0.1 p L.1 L.2.1 L.2.2.1 L.2.2.2.1 L.2.2.2.2 = H0.1 from yl, ws.1] at al
  change alen H0 _ = _ at al
  change gfd H0 1 4 p = _ at gl
  rw [b2i_t] at e3
  refine ⟨H', ?_, ?_⟩
  · simp only [c143, x143_0, x143_1, x143_4, x143_6, x143_9, x143_10, x143_11, x143_12, x143_13, x143_16, x143_19, x143_20, x143_21, x143_22, x143_24, x143_25, x143_29, x143_31, x143_34, x143_35, x143_37, x143_38, x143_40, x143_42, x143_43, x143_46, x143_49, x143_50, x143_53, x143_54, x143_57, x143_59, x143_62, x143_63, x143_64, x143_67, x143_69, x143_72, x143_75, x143_76, x143_77, x143_78, x143_81, x143_84, x143_85, x143_88, x143_90, x143_93, x143_94, gk_some, pk_some, qk_some, bnd_v, bnd_n, kl_int, kl_ref, kl_null, kl_un, Nat.reduceAdd, if_true, if_false, g5, List.getElem?_cons_zero, List.getElem?_cons_succ, OS_rv o, e0, gy, gl, al]
    exact e3
  · unfold stW
    rw [← List.append_assoc]
    exact o3
theorem w144 (w0 : WK h0 p L) {v : Int32} (hN : ∀ t, t ∈ L.2.2.2.2 → holP v t = true → nbK t) {cs : List Int32} {H : HS} (o : OS h0 f cs c s H) (hl : cs.length + 1 ≤ 130) : ∃ H', rcal 144 [.ref 32, .int v] H = some (.inl none, H') ∧ OS h0 f (cs ++ seW L v) c s H' := by
  obtain ⟨⟨x1, x2, x3, x4, x6, x7, x8, e⟩, hp, ⟨l, ws⟩, ck, n⟩ := WK_OS w0 o
  have g5 := gfH (H := H) e 5
  have g0 := gfH (H := H) e 0
  have rl := rvL_of H.2 l
  replace l : put H.1 p L.1 L.2.1 L.2.2.1 L.2.2.2.1 L.2.2.2.2 = H.1 := l
  have h59 := m59 H.1 L.1 L.2.1 L.2.2.1 L.2.2.2.1 L.2.2.2.2 H.2 (p := p) ws v
  rw [l] at h59
  change rcal 59 _ H = some (_, H) at h59
  change recv H p 1 = true at rl
  unfold seW
  cases hf : L.2.2.2.2.find? (holP v) with
  | none =>
    rw [hf] at h59
    obtain ⟨H', e1, o1⟩ := OS_c o (by omega) sg_ck.2.2.2.1
    refine ⟨H', ?_, o1⟩
    simp only [c144, x144_0, x144_1, x144_4, x144_5, x144_8, x144_9, x144_9n, x144_10, x144_13, x144_14, x144_17, x144_19, x144_22, x144_23, x144_55, x144_22a, x144_10a, x144_26, x144_27, x144_30, x144_31, x144_34, x144_37, x144_39, x144_44, x144_47, x144_48, x144_47a, x144_48a, x144_51a, x144_54, x144_54a, x144_42, x144_8a, gk_some, pk_some, qk_some, bnd_v, bnd_n, kl_int, kl_ref, kl_null, kl_un, Nat.reduceAdd, if_true, if_false, g0, g5, List.getElem?_cons_zero, List.getElem?_cons_succ, rl, h59, refO, OS_rv o, e1]
  | some t =>
    rw [hf] at h59
    obtain ⟨h1, h2, h3, h4⟩ := find_has ws.2.1 hf
    obtain ⟨m, m1, m2⟩ := hN t h3 h4
    have hnw := nbW_of m1 m2
    have sg : sgK (if 0 < stp_ t.2 then 62 else 60) := by
      split
      · exact sg_ck.2.2.2.2.2.1
      · exact sg_ck.2.2.2.2.1
    obtain ⟨H0, e0, o0⟩ := OS_c o (by omega) sg
    obtain ⟨H', e1, o1⟩ := OS_n o0 w0.2.2.2.1 (by rw [List.length_append, List.length_singleton]; omega) (m := m) (by omega)
    obtain ⟨-, -, ⟨yl, -⟩, -, -⟩ := WK_OS w0 o0
    have gt := gt1 H0.1 p L.1 L.2.1 L.2.2.1 L.2.2.2.1 L.2.2.2.2 H0.2 h1
    rw [show put H0.1 p L.1 L.2.1 L.2.2.1 L.2.2.2.1 L.2.2.2.2 = H0.1 from yl, h2, m1] at gt
    change gfd H0 2 1 _ = _ at gt
    have rt := rvT H.1 p L.1 L.2.1 L.2.2.1 L.2.2.2.1 L.2.2.2.2 H.2 h1
    have h84 := m84 H.1 L.1 L.2.1 L.2.2.1 L.2.2.2.1 L.2.2.2.2 H.2 (p := p) h1
    rw [l] at rt h84
    rw [h2] at h84
    change rcal 84 _ H = some (_, H) at h84
    change recv H (p + 5 + t.1) 2 = true at rt
    refine ⟨H', ?_, ?_⟩
    · by_cases q : 0 < stp_ t.2
      · rw [if_pos q] at e0
        simp only [c144, x144_0, x144_1, x144_4, x144_5, x144_8, x144_9, x144_9n, x144_10, x144_13, x144_14, x144_17, x144_19, x144_22, x144_23, x144_55, x144_22a, x144_10a, x144_26, x144_27, x144_30, x144_31, x144_34, x144_37, x144_39, x144_44, x144_47, x144_48, x144_47a, x144_48a, x144_51a, x144_54, x144_54a, x144_42, x144_8a, gk_some, pk_some, qk_some, bnd_v, bnd_n, kl_int, kl_ref, kl_null, kl_un, Nat.reduceAdd, if_true, if_false, g0, g5, List.getElem?_cons_zero, List.getElem?_cons_succ, rl, h59, refO, rt, h84, q, OS_rv o, e0, gt, OS_rv o0, e1]
      · rw [if_neg q] at e0
        simp only [c144, x144_0, x144_1, x144_4, x144_5, x144_8, x144_9, x144_9n, x144_10, x144_13, x144_14, x144_17, x144_19, x144_22, x144_23, x144_55, x144_22a, x144_10a, x144_26, x144_27, x144_30, x144_31, x144_34, x144_37, x144_39, x144_44, x144_47, x144_48, x144_47a, x144_48a, x144_51a, x144_54, x144_54a, x144_42, x144_8a, gk_some, pk_some, qk_some, bnd_v, bnd_n, kl_int, kl_ref, kl_null, kl_un, Nat.reduceAdd, if_true, if_false, g0, g5, List.getElem?_cons_zero, List.getElem?_cons_succ, rl, h59, refO, rt, h84, q, OS_rv o, e0, gt, OS_rv o0, e1]
    · show OS h0 f (cs ++ ([if 0 < stp_ t.2 then 62 else 60] ++ nbW t)) c s H'
      rw [hnw, ← List.append_assoc]
      exact o1
theorem seW_len {v : Int32} (hN : ∀ t, t ∈ L.2.2.2.2 → holP v t = true → nbK t) : (seW L v).length ≤ 4 := by
  unfold seW
  cases hf : L.2.2.2.2.find? (holP v) with
  | none => exact (by decide : 1 ≤ 4)
  | some t =>
    have := nbW_len (hN t (List.mem_of_find?_eq_some hf) (by have := List.find?_some hf; exact this))
    simp only [List.length_append, List.length_singleton]
    omega
theorem stW_len {v : Int32} (hN : ∀ t, t ∈ L.2.2.2.2 → staP v t = true → nbK t) : (stW L v).length ≤ 2 + 4 * (L.2.2.2.2.filter (staP v)).length := by
  have := trW_len (L.2.2.2.2.filter (staP v)) true (fun t ht => hN t ((List.mem_filter.mp ht).1) (List.mem_filter.mp ht).2)
  unfold stW
  simp only [List.length_append, List.length_singleton]
  omega
/-- how many trains stand at the stations from k on -/
def cnF (S : List SL) : Nat → Nat → Nat
  | 0, _ => 0
  | fu + 1, k => (S.filter (staP (I k))).length + cnF S fu (k + 1)
theorem l140 (w0 : WK h0 p L) (hN : ∀ t, t ∈ L.2.2.2.2 → t.2.1 ≠ 1 → nbK t) {n : Nat} (hn : L.1 0 = I n) (h7 : n ≤ 7) : ∀ (fu k : Nat) (cs : List Int32) (H : HS), k + fu = n → OS h0 f cs c s H → cs.length + 6 * fu + 4 * cnF L.2.2.2.2 fu k ≤ 120 → ∃ H', rn 140 10 [.ref 32, .int (I k)] [] H = some (.inl (some (.int (I (cs ++ clW L fu k).length))), H') ∧ OS h0 f (cs ++ clW L fu k) c s H' := by
  have hS : ∀ v t, t ∈ L.2.2.2.2 → staP v t = true → nbK t := fun v t ht q => hN t ht (by
    unfold staP at q; simp only [Bool.and_eq_true, decide_eq_true_eq] at q; rw [q.1]; decide)
  have hH : ∀ v t, t ∈ L.2.2.2.2 → holP v t = true → nbK t := fun v t ht q => hN t ht (by
    unfold holP at q; simp only [Bool.and_eq_true, decide_eq_true_eq] at q; rw [q.1]; decide)
  intro fu
  induction fu with
  | zero =>
    intro k cs H hk o hl
    obtain ⟨⟨x1, x2, x3, x4, x6, x7, x8, e⟩, hp, ⟨l, ws⟩, ck, -⟩ := WK_OS w0 o
    have g5 := gfH (H := H) e 5
    have g0 := gfH (H := H) e 0
    have gl := gq0 (show put H.1 p L.1 L.2.1 L.2.2.1 L.2.2.2.1 L.2.2.2.2 = H.1 from l) H.2
    change gfd H 1 0 p = _ at gl
    have nk : ¬ I k < I n := fun z => by have := (I_lt (by omega) (by omega)).mp z; omega
    have ol := OS_len o
    simp only [clW, List.append_nil]
    refine ⟨H, ?_, o⟩
    rw [x140_10]
    simp only [x140_11, x140_12, x140_15, x140_18, x140_43, x140_44, x140_47, x140_50, gk_some, pk_some, qk_some, bnd_v, bnd_n, kl_int, kl_ref, kl_null, kl_un, Nat.reduceAdd, if_true, if_false, g0, g5, List.getElem?_cons_zero, List.getElem?_cons_succ, gl, hn, nk, OS_rv o, ol]
  | succ fu ih =>
    intro k cs H hk o hl
    obtain ⟨⟨x1, x2, x3, x4, x6, x7, x8, e⟩, hp, ⟨l, ws⟩, ck, -⟩ := WK_OS w0 o
    have g0 := gfH (H := H) e 0
    have gl := gq0 (show put H.1 p L.1 L.2.1 L.2.2.1 L.2.2.2.1 L.2.2.2.2 = H.1 from l) H.2
    change gfd H 1 0 p = _ at gl
    have r0 := rvH (H := H) e
    change recv H 32 0 = true at r0
    have nk : I k < I n := (I_lt (by omega) (by omega)).mpr (by omega)
    rw [cnF] at hl
    have hst := stW_len (hS (I k))
    by_cases k0 : 0 < k
    · have q0 : 0 < I k := (I_lt (a := 0) (by decide) (by omega)).mpr k0
      obtain ⟨H1, e1, o1⟩ := w144 w0 (hH (I (k - 1))) o (by omega)
      have hse := seW_len (hH (I (k - 1)))
      obtain ⟨⟨y1, y2, y3, y4, y6, y7, y8, ye⟩, -, -, -, -⟩ := WK_OS w0 o1
      have r1 := rvH (H := H1) ye
      change recv H1 32 0 = true at r1
      obtain ⟨H2, e2, o2⟩ := w143 w0 (hS (I k)) o1 (by rw [List.length_append]; omega)
      obtain ⟨H', e3, o3⟩ := ih (k + 1) (cs ++ seW L (I (k - 1)) ++ stW L (I k)) H2 (by omega) o2 (by rw [List.length_append, List.length_append]; omega)
      have s1 : I k - 1 = I (k - 1) := I_sub1 (by omega)
      rw [clW, if_pos k0]
      simp only [List.append_assoc] at e3 o3 ⊢
      refine ⟨H', ?_, o3⟩
      rw [x140_10, x140_11, x140_12, g0]
      simp only [x140_15, x140_18, x140_21, x140_22, x140_25, x140_26, x140_27, x140_28, x140_29, x140_32, x140_33, x140_34, x140_37, x140_40, gk_some, pk_some, qk_some, bnd_v, bnd_n, kl_int, kl_ref, kl_null, kl_un, Nat.reduceAdd, if_true, if_false, List.getElem?_cons_zero, gl, hn, nk, q0, r0, s1, e1, r1, e2, I_1, e3]
    · have ek : k = 0 := by omega
      subst ek
      have q0 : ¬ 0 < I 0 := by decide
      obtain ⟨H2, e2, o2⟩ := w143 w0 (hS (I 0)) o (by omega)
      obtain ⟨H', e3, o3⟩ := ih (0 + 1) (cs ++ stW L (I 0)) H2 (by omega) o2 (by rw [List.length_append]; omega)
      rw [clW, if_neg k0, List.nil_append]
      simp only [List.append_assoc] at e3 o3 ⊢
      refine ⟨H', ?_, o3⟩
      rw [x140_10, x140_11, x140_12, g0]
      simp only [x140_15, x140_18, x140_21, x140_22, x140_32, x140_33, x140_34, x140_37, x140_40, gk_some, pk_some, qk_some, bnd_v, bnd_n, kl_int, kl_ref, kl_null, kl_un, Nat.reduceAdd, if_true, if_false, List.getElem?_cons_zero, gl, hn, nk, q0, r0, e2]
      rw [I_1, e3]
end WCLS
