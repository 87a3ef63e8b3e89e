/-! the reference's queries, part two -/
def resP (v : Int32) (s : SL) : Bool := decide (s.2.1 = 4) && (decide (ahdT s.2 = v) && decide (s.2.2 3 ≠ v))
/-- a running train's station is the next one -/
def ahdK (P : List SL) : Prop := ∀ s, s ∈ P → s.2.1 = 4 → ahdT s.2 = s.2.2 6
theorem cnt_occ {P : List SL} (k : ahdK P) (v : Int32) : P.countP (staP v) + P.countP (resP v) = P.countP (occP v) := by
  induction P with
  | nil => rfl
  | cons s P ih =>
    have ih' := ih (fun t ht => k t (List.mem_cons_of_mem _ ht))
    rw [List.countP_cons, List.countP_cons, List.countP_cons]
    have e : (if staP v s = true then 1 else 0) + (if resP v s = true then 1 else 0) = (if occP v s = true then 1 else 0) := by
      by_cases h3 : s.2.1 = 3
      · by_cases hv : s.2.2 6 = v
        · simp [staP, resP, occP, h3, hv]
        · simp [staP, resP, occP, h3, hv]
      · by_cases h4 : s.2.1 = 4
        · have := k s List.mem_cons_self h4
          by_cases hv : s.2.2 6 = v
          · simp [staP, resP, occP, h4, hv, this]
          · simp [staP, resP, occP, h4, hv, this]
        · simp [staP, resP, occP, h3, h4]
    omega
theorem fold_cnt (q : SL → Bool) : ∀ (S : List SL) (z : Int32), S.foldl (fun n s => if q s = true then n + (-1) else n) z = z - I (S.countP q)
  | [], z => by rw [List.foldl_nil, List.countP_nil, show I 0 = 0 from rfl, Int32.sub_zero]
  | s :: S, z => by
    rw [List.foldl_cons, fold_cnt q S, List.countP_cons]
    by_cases e : q s = true
    · rw [if_pos e, if_pos e, show I (S.countP q + 1) = I (S.countP q) + 1 from (I_1 _).symm]
      generalize I (S.countP q) = c
      grind
    · rw [if_neg e, if_neg e, Nat.add_zero]
theorem freN_cnt (tk : Nat → Int32) (S : List SL) (v : Int32) : freN tk S v = tk v.toNatClampNeg - I (S.countP (occP v)) := fold_cnt _ _ _
/-- the trains that there are -/
def prs (S : List SL) : List SL := S.filter fun s => decide (s.2.1 ≠ 1)
theorem cnt_prs {q : SL → Bool} (hq : ∀ s, q s = true → s.2.1 ≠ 1) (S : List SL) : (prs S).countP q = S.countP q := by
  unfold prs
  rw [List.countP_filter]
  refine List.countP_congr fun s _ => ?_
  constructor
  · intro e; simp at e; exact e.1
  · intro e; simp [e, hq s e]
theorem occ_pr (v : Int32) (s : SL) (e : occP v s = true) : s.2.1 ≠ 1 := by
  intro h; simp [occP, h] at e
theorem find_prs {q : SL → Bool} (hq : ∀ s, q s = true → s.2.1 ≠ 1) (S : List SL) : (prs S).find? q = S.find? q := by
  unfold prs
  rw [List.find?_filter]
  congr 1
  funext s
  by_cases e : q s = true
  · simp [e, hq s e]
  · simp [e]
theorem hol_pr (v : Int32) (s : SL) (e : holP v s = true) : s.2.1 ≠ 1 := by
  intro h; simp [holP, h] at e
theorem fnd_pr (v : Int32) (s : SL) (e : fndP v s = true) : s.2.1 ≠ 1 := by
  intro h; simp [fndP, h] at e
section MREAD2
variable (h : PH) {p : Nat} (g : Nat → Int32) (A : Nat → Nat → Int32) (r : Nat × Nat × Nat)
theorem l162 {P : List SL} (hT : TRel (A 1) P) (v : Int32) : ∀ (R D : List SL) (i : Int32) (n : Nat) (z : Value), P = D ++ R → i = I D.length → rn 162 8 [.ref p, .int v, .int (I n), .int i, z] [] (mput h p g A, r) = some (.inl (some (.int (I (n + R.countP (resP v))))), (mput h p g A, r)) := by
  intro R
  induction R with
  | nil =>
    intro D i n z hP hi
    rw [x162_8]
    simp only [x162_0, x162_1, x162_2, x162_5, x162_6, x162_7, x162_9, x162_10, x162_13, x162_14, x162_15, x162_18, x162_19, x162_22, x162_23, x162_26, x162_27, x162_28, x162_29, x162_30, x162_33, x162_34, x162_35, x162_38, x162_39, x162_42, x162_43, x162_47, x162_49, x162_50, x162_52, x162_55, x162_56, x162_59, x162_60, x162_63, x162_64, x162_65, x162_66, x162_67, x162_70, x162_71, x162_75, x162_76, x162_77, x162_80, x162_74, x162_46, x162_83, x162_84, gk_some, pk_some, qk_some, bnd_v, bnd_n, kl_int, kl_ref, kl_null, kl_un, Nat.reduceAdd, if_true, if_false, gm0, gm1, gm2, gm3, gm4, gm5, gm6, gm7, gm8, gm9, gm10, gm11, gm12, gm13, gm14, gm15, gm16, gm17, gm18, gm19, gm20, gm21, gm22, rvM, rl0, rl1, rl2, rl3, rl4, rl5, rl6, rl7, rl8, hi, hT.1, nlt_end hP, List.countP_nil, Nat.add_zero]
  | cons s R ih =>
    intro D i n z hP hi
    have hr := mrd h g A r (p := p) hT hP
    have h159 := m159 h g A r (p := p) hT hP
    have ih' := fun n z => ih (D ++ [s]) (I D.length + 1) n z (sub_ hP) (len_ D s)
    simp only [I_1] at ih'
    rw [x162_8, List.countP_cons]
    simp only [x162_0, x162_1, x162_2, x162_5, x162_6, x162_7, x162_9, x162_10, x162_13, x162_14, x162_15, x162_18, x162_19, x162_22, x162_23, x162_26, x162_27, x162_28, x162_29, x162_30, x162_33, x162_34, x162_35, x162_38, x162_39, x162_42, x162_43, x162_47, x162_49, x162_50, x162_52, x162_55, x162_56, x162_59, x162_60, x162_63, x162_64, x162_65, x162_66, x162_67, x162_70, x162_71, x162_75, x162_76, x162_77, x162_80, x162_74, x162_46, x162_83, x162_84, gk_some, pk_some, qk_some, bnd_v, bnd_n, kl_int, kl_ref, kl_null, kl_un, Nat.reduceAdd, if_true, if_false, gm0, gm1, gm2, gm3, gm4, gm5, gm6, gm7, gm8, gm9, gm10, gm11, gm12, gm13, gm14, gm15, gm16, gm17, gm18, gm19, gm20, gm21, gm22, rvM, rl0, rl1, rl2, rl3, rl4, rl5, rl6, rl7, rl8, hi, hT.1, mlt A hT hP, m154, I_1, Ia2, Ia3, Ia4, Ia5, Ia6, Ia7, Ia8, Ia9, Ia10, Ia11, Ia12, Il9, Il16, Il22, Il76, Im9, hr, show 4 < 9 by decide, show 2 < 9 by decide, mt, whr_2, h159]
    by_cases e : s.2.1 = 4
    · by_cases e2 : ahdT s.2 = v
      · by_cases e3 : s.2.2 3 = v
        · simp only [e, e2, e3, resP, fit1, fit0, fitb, b2i_t, b2i_f, reduceIte, decide_true, decide_false, ne_eq, not_true_eq_false, Bool.and_false, Bool.false_eq_true, ne10, x162_0, x162_1, x162_2, x162_5, x162_6, x162_7, x162_9, x162_10, x162_13, x162_14, x162_15, x162_18, x162_19, x162_22, x162_23, x162_26, x162_27, x162_28, x162_29, x162_30, x162_33, x162_34, x162_35, x162_38, x162_39, x162_42, x162_43, x162_47, x162_49, x162_50, x162_52, x162_55, x162_56, x162_59, x162_60, x162_63, x162_64, x162_65, x162_66, x162_67, x162_70, x162_71, x162_75, x162_76, x162_77, x162_80, x162_74, x162_46, x162_83, x162_84, gk_some, pk_some, qk_some, bnd_v, bnd_n, kl_int, kl_ref, kl_null, kl_un, Nat.reduceAdd, if_true, if_false, hr, show 2 < 9 by decide, mt, Int32.add_zero, I_1, Ia2, Ia3, Ia4, Ia5, Ia6, Ia7, Ia8, Ia9, Ia10, Ia11, Ia12, Il9, Il16, Il22, Il76, Im9, ih', Nat.add_zero]
        · simp only [e, e2, e3, resP, fit1, fit0, fitb, b2i_t, b2i_f, reduceIte, decide_true, decide_false, ne_eq, not_false_eq_true, Bool.and_self, ne10, x162_0, x162_1, x162_2, x162_5, x162_6, x162_7, x162_9, x162_10, x162_13, x162_14, x162_15, x162_18, x162_19, x162_22, x162_23, x162_26, x162_27, x162_28, x162_29, x162_30, x162_33, x162_34, x162_35, x162_38, x162_39, x162_42, x162_43, x162_47, x162_49, x162_50, x162_52, x162_55, x162_56, x162_59, x162_60, x162_63, x162_64, x162_65, x162_66, x162_67, x162_70, x162_71, x162_75, x162_76, x162_77, x162_80, x162_74, x162_46, x162_83, x162_84, gk_some, pk_some, qk_some, bnd_v, bnd_n, kl_int, kl_ref, kl_null, kl_un, Nat.reduceAdd, if_true, if_false, hr, show 2 < 9 by decide, mt, I_1, Ia2, Ia3, Ia4, Ia5, Ia6, Ia7, Ia8, Ia9, Ia10, Ia11, Ia12, Il9, Il16, Il22, Il76, Im9, ih']
          rw [Nat.add_right_comm]; rfl
      · simp only [e, e2, resP, fit1, fit0, fitb, b2i_t, b2i_f, reduceIte, decide_true, decide_false, Bool.false_and, Bool.and_false, Bool.false_eq_true, ne10, x162_0, x162_1, x162_2, x162_5, x162_6, x162_7, x162_9, x162_10, x162_13, x162_14, x162_15, x162_18, x162_19, x162_22, x162_23, x162_26, x162_27, x162_28, x162_29, x162_30, x162_33, x162_34, x162_35, x162_38, x162_39, x162_42, x162_43, x162_47, x162_49, x162_50, x162_52, x162_55, x162_56, x162_59, x162_60, x162_63, x162_64, x162_65, x162_66, x162_67, x162_70, x162_71, x162_75, x162_76, x162_77, x162_80, x162_74, x162_46, x162_83, x162_84, gk_some, pk_some, qk_some, bnd_v, bnd_n, kl_int, kl_ref, kl_null, kl_un, Nat.reduceAdd, if_true, if_false, Int32.add_zero, I_1, Ia2, Ia3, Ia4, Ia5, Ia6, Ia7, Ia8, Ia9, Ia10, Ia11, Ia12, Il9, Il16, Il22, Il76, Im9, ih', Nat.add_zero]
    · simp only [e, resP, fit1, fit0, fitb, b2i_t, b2i_f, reduceIte, decide_true, decide_false, Bool.false_and, Bool.false_eq_true, ne10, x162_0, x162_1, x162_2, x162_5, x162_6, x162_7, x162_9, x162_10, x162_13, x162_14, x162_15, x162_18, x162_19, x162_22, x162_23, x162_26, x162_27, x162_28, x162_29, x162_30, x162_33, x162_34, x162_35, x162_38, x162_39, x162_42, x162_43, x162_47, x162_49, x162_50, x162_52, x162_55, x162_56, x162_59, x162_60, x162_63, x162_64, x162_65, x162_66, x162_67, x162_70, x162_71, x162_75, x162_76, x162_77, x162_80, x162_74, x162_46, x162_83, x162_84, gk_some, pk_some, qk_some, bnd_v, bnd_n, kl_int, kl_ref, kl_null, kl_un, Nat.reduceAdd, if_true, if_false, Int32.add_zero, I_1, Ia2, Ia3, Ia4, Ia5, Ia6, Ia7, Ia8, Ia9, Ia10, Ia11, Ia12, Il9, Il16, Il22, Il76, Im9, ih', Nat.add_zero]
theorem m162 {P : List SL} (hT : TRel (A 1) P) (k : ahdK P) (v : Int32) : rcal 162 [.ref p, .int v] (mput h p g A, r) = some (.inl (some (.int (I (P.countP (occP v))))), (mput h p g A, r)) := by
  have e := fun z => l162 h g A r (p := p) hT v P [] 0 (P.countP (staP v)) z rfl rfl
  rw [cnt_occ k] at e
  simp only [c162, x162_0, x162_1, x162_2, x162_5, x162_6, x162_7, x162_9, x162_10, x162_13, x162_14, x162_15, x162_18, x162_19, x162_22, x162_23, x162_26, x162_27, x162_28, x162_29, x162_30, x162_33, x162_34, x162_35, x162_38, x162_39, x162_42, x162_43, x162_47, x162_49, x162_50, x162_52, x162_55, x162_56, x162_59, x162_60, x162_63, x162_64, x162_65, x162_66, x162_67, x162_70, x162_71, x162_75, x162_76, x162_77, x162_80, x162_74, x162_46, x162_83, x162_84, gk_some, pk_some, qk_some, bnd_v, bnd_n, kl_int, kl_ref, kl_null, kl_un, Nat.reduceAdd, if_true, if_false, m161 h g A r hT, gm0, gm1, gm2, gm3, gm4, gm5, gm6, gm7, gm8, gm9, gm10, gm11, gm12, gm13, gm14, gm15, gm16, gm17, gm18, gm19, gm20, gm21, gm22, rvM, e]
theorem m163 {P : List SL} (hT : TRel (A 1) P) (k : ahdK P) {n : Nat} (hn : n < 7) : rcal 163 [.ref p, .int (I n)] (mput h p g A, r) = some (.inl (some (.int (A 1 (9 + n) - I (P.countP (occP (I n)))))), (mput h p g A, r)) := by
  have h162 := m162 h g A r (p := p) hT k (I n)
  have hr := rn1 h g A r (p := p) (n := 9 + n) (by omega)
  simp only [c163, x163_0, x163_1, x163_4, x163_6, x163_7, x163_8, x163_9, x163_10, x163_11, x163_14, x163_15, gk_some, pk_some, qk_some, bnd_v, bnd_n, kl_int, kl_ref, kl_null, kl_un, Nat.reduceAdd, if_true, if_false, gm0, gm1, gm2, gm3, gm4, gm5, gm6, gm7, gm8, gm9, gm10, gm11, gm12, gm13, gm14, gm15, gm16, gm17, gm18, gm19, gm20, gm21, gm22, rvM, I_1, Ia2, Ia3, Ia4, Ia5, Ia6, Ia7, Ia8, Ia9, Ia10, Ia11, Ia12, Il9, Il16, Il22, Il76, Im9, hr, h162]
theorem l164 {x y : Nat} (hx : x < 7) (hy : y < 7) : ∀ (c a : Nat) (z : Int32), a + c = max x y → min x y ≤ a → rn 164 9 [.ref p, .int (I x), .int (I y), .int z, .int (I a)] [] (mput h p g A, r) = some (.inl (some (.int (sumA (fun k => A 1 (16 + k)) a c z))), (mput h p g A, r)) := by
  intro c
  induction c with
  | zero =>
    intro a z ha _
    rw [x164_9]
    have hlt : ¬ I a < I (max x y) := by rw [I_lt (by omega) (by omega)]; omega
    simp only [x164_0, x164_1, x164_2, x164_3, x164_4, x164_7, x164_11, x164_12, x164_13, x164_16, x164_19, x164_20, x164_21, x164_24, x164_26, x164_28, x164_29, x164_30, x164_31, x164_32, x164_35, x164_38, x164_39, gk_some, pk_some, qk_some, bnd_v, bnd_n, kl_int, kl_ref, kl_null, kl_un, Nat.reduceAdd, if_true, if_false, I_max (show x < 2147483648 by omega) (show y < 2147483648 by omega), hlt, sumA]
  | succ c ih =>
    intro a z ha hm
    have hlt : I a < I (max x y) := by rw [I_lt (by omega) (by omega)]; omega
    have hr := rn1 h g A r (p := p) (n := 16 + a) (by omega)
    have ih' := ih (a + 1) (z + A 1 (16 + a)) (by omega) (by omega)
    rw [x164_9]
    simp only [x164_0, x164_1, x164_2, x164_3, x164_4, x164_7, x164_11, x164_12, x164_13, x164_16, x164_19, x164_20, x164_21, x164_24, x164_26, x164_28, x164_29, x164_30, x164_31, x164_32, x164_35, x164_38, x164_39, gk_some, pk_some, qk_some, bnd_v, bnd_n, kl_int, kl_ref, kl_null, kl_un, Nat.reduceAdd, if_true, if_false, gm0, gm1, gm2, gm3, gm4, gm5, gm6, gm7, gm8, gm9, gm10, gm11, gm12, gm13, gm14, gm15, gm16, gm17, gm18, gm19, gm20, gm21, gm22, rvM, I_max (show x < 2147483648 by omega) (show y < 2147483648 by omega), hlt, I_1, Ia2, Ia3, Ia4, Ia5, Ia6, Ia7, Ia8, Ia9, Ia10, Ia11, Ia12, Il9, Il16, Il22, Il76, Im9, hr, ih', sumA]
theorem m164 {x y : Nat} (hx : x < 7) (hy : y < 7) : rcal 164 [.ref p, .int (I x), .int (I y)] (mput h p g A, r) = some (.inl (some (.int (betw (fun k => A 1 (16 + k)) x y))), (mput h p g A, r)) := by
  have e := l164 h g A r (p := p) hx hy (max x y - min x y) (min x y) 0 (by omega) (by omega)
  have e2 : (if I x < I y then I x else I y) = I (min x y) := by rw [I_min (by omega) (by omega), Nat.min_comm]
  simp only [c164, x164_0, x164_1, x164_2, x164_3, x164_4, x164_7, x164_11, x164_12, x164_13, x164_16, x164_19, x164_20, x164_21, x164_24, x164_26, x164_28, x164_29, x164_30, x164_31, x164_32, x164_35, x164_38, x164_39, gk_some, pk_some, qk_some, bnd_v, bnd_n, kl_int, kl_ref, kl_null, kl_un, Nat.reduceAdd, if_true, if_false, I_min (show x < 2147483648 by omega) (show y < 2147483648 by omega), e2, e, betw]
/-- the plan as the reference finds it -/
def plnM (a : Nat → Int32) (t : TR) : Int32 := t.2 4 + betw (fun k => a (16 + k)) (t.2 2).toNatClampNeg (t.2 3).toNatClampNeg + iabs (t.2 3 - t.2 2)
/-- a train's two stations are stations -/
def endK (t : TR) : Prop := (¬ t.2 2 < 0 ∧ (t.2 2).toNatClampNeg < 7) ∧ ¬ t.2 3 < 0 ∧ (t.2 3).toNatClampNeg < 7
theorem m165 {P D R : List SL} {s : SL} (hT : TRel (A 1) P) (hP : P = D ++ s :: R) (k : endK s.2) : rcal 165 [.ref p, .int (I D.length)] (mput h p g A, r) = some (.inl (some (.int (plnM (A 1) s.2))), (mput h p g A, r)) := by
  obtain ⟨⟨k1, k2⟩, k3, k4⟩ := k
  have hr := mrd h g A r (p := p) hT hP
  have h164 := m164 h g A r (p := p) k2 k4
  rw [← I_of k1, ← I_of k3] at h164
  have hab : ∀ x : Int32, (if 0 ≤ x then x else 0 - x) = iabs x := fun _ => rfl
  simp only [c165, x165_0, x165_1, x165_4, x165_5, x165_8, x165_9, x165_10, x165_11, x165_12, x165_13, x165_16, x165_17, x165_20, x165_21, x165_22, x165_23, x165_24, x165_25, x165_28, x165_29, x165_32, x165_33, x165_34, x165_35, x165_36, x165_37, x165_38, x165_41, x165_42, x165_43, x165_44, x165_45, x165_48, x165_49, gk_some, pk_some, qk_some, bnd_v, bnd_n, kl_int, kl_ref, kl_null, kl_un, Nat.reduceAdd, if_true, if_false, gm0, gm1, gm2, gm3, gm4, gm5, gm6, gm7, gm8, gm9, gm10, gm11, gm12, gm13, gm14, gm15, gm16, gm17, gm18, gm19, gm20, gm21, gm22, rvM, m154, I_1, Ia2, Ia3, Ia4, Ia5, Ia6, Ia7, Ia8, Ia9, Ia10, Ia11, Ia12, Il9, Il16, Il22, Il76, Im9, hr, show 1 < 9 by decide, show 2 < 9 by decide, show 3 < 9 by decide, mt, h164, hab, plnM]
theorem l173 {P : List SL} (hT : TRel (A 1) P) : ∀ (R D : List SL) (i n : Int32), P = D ++ R → i = I D.length → rn 173 4 [.ref p, .int n, .int i] [] (mput h p g A, r) = some (.inl (some (.int (R.foldl (fun n s => n + s.2.2 9) n))), (mput h p g A, r)) := by
  intro R
  induction R with
  | nil =>
    intro D i n hP hi
    rw [x173_4]
    simp only [x173_0, x173_1, x173_2, x173_3, x173_5, x173_6, x173_9, x173_10, x173_11, x173_14, x173_15, x173_16, x173_19, x173_20, x173_23, x173_25, x173_26, x173_27, x173_28, x173_29, x173_32, x173_35, x173_36, gk_some, pk_some, qk_some, bnd_v, bnd_n, kl_int, kl_ref, kl_null, kl_un, Nat.reduceAdd, if_true, if_false, gm0, gm1, gm2, gm3, gm4, gm5, gm6, gm7, gm8, gm9, gm10, gm11, gm12, gm13, gm14, gm15, gm16, gm17, gm18, gm19, gm20, gm21, gm22, rvM, rl0, rl1, rl2, rl3, rl4, rl5, rl6, rl7, rl8, hi, hT.1, nlt_end hP, List.foldl_nil]
  | cons s R ih =>
    intro D i n hP hi
    have hr := mrd h g A r (p := p) hT hP
    have ih' := fun n => ih (D ++ [s]) (I D.length + 1) n (sub_ hP) (len_ D s)
    simp only [I_1] at ih'
    rw [x173_4]
    simp only [x173_0, x173_1, x173_2, x173_3, x173_5, x173_6, x173_9, x173_10, x173_11, x173_14, x173_15, x173_16, x173_19, x173_20, x173_23, x173_25, x173_26, x173_27, x173_28, x173_29, x173_32, x173_35, x173_36, gk_some, pk_some, qk_some, bnd_v, bnd_n, kl_int, kl_ref, kl_null, kl_un, Nat.reduceAdd, if_true, if_false, gm0, gm1, gm2, gm3, gm4, gm5, gm6, gm7, gm8, gm9, gm10, gm11, gm12, gm13, gm14, gm15, gm16, gm17, gm18, gm19, gm20, gm21, gm22, rvM, rl0, rl1, rl2, rl3, rl4, rl5, rl6, rl7, rl8, hi, hT.1, mlt A hT hP, m154, I_1, Ia2, Ia3, Ia4, Ia5, Ia6, Ia7, Ia8, Ia9, Ia10, Ia11, Ia12, Il9, Il16, Il22, Il76, Im9, hr, show 7 < 9 by decide, mt, ih', List.foldl_cons]
theorem m173 {P : List SL} (hT : TRel (A 1) P) : rcal 173 [.ref p] (mput h p g A, r) = some (.inl (some (.int (P.foldl (fun n s => n + s.2.2 9) 0))), (mput h p g A, r)) := by
  have e := l173 h g A r (p := p) hT P [] 0 0 rfl rfl
  simp only [c173, x173_0, x173_1, x173_2, x173_3, x173_5, x173_6, x173_9, x173_10, x173_11, x173_14, x173_15, x173_16, x173_19, x173_20, x173_23, x173_25, x173_26, x173_27, x173_28, x173_29, x173_32, x173_35, x173_36, gk_some, pk_some, qk_some, bnd_v, bnd_n, kl_int, kl_ref, kl_null, kl_un, Nat.reduceAdd, if_true, if_false, e]
/-- has a number come in this minute? -/
def comN (a : Nat → Int32) (v : Int32) : Nat → Nat → Bool → Bool
  | _, 0, b => b
  | k, c + 1, b => comN a v (k + 1) c (b || decide (a k = v))
theorem l179 {m : Nat} (hm : g 13 = I m) (h12 : m ≤ 12) (v : Int32) : ∀ (c k : Nat) (b : Bool), k + c = m → rn 179 4 [.ref p, .int v, .int (b2i b), .int (I k)] [] (mput h p g A, r) = some (.inl (some (.int (b2i (comN (A 7) v k c b)))), (mput h p g A, r)) := by
  intro c
  induction c with
  | zero =>
    intro k b hk
    have hlt : ¬ I k < I m := by rw [I_lt (by omega) (by omega)]; omega
    rw [x179_4]
    simp only [x179_0, x179_1, x179_2, x179_3, x179_5, x179_6, x179_9, x179_12, x179_13, x179_16, x179_17, x179_20, x179_21, x179_22, x179_23, x179_26, x179_27, x179_31, x179_32, x179_35, x179_30, x179_38, x179_39, gk_some, pk_some, qk_some, bnd_v, bnd_n, kl_int, kl_ref, kl_null, kl_un, Nat.reduceAdd, if_true, if_false, gm0, gm1, gm2, gm3, gm4, gm5, gm6, gm7, gm8, gm9, gm10, gm11, gm12, gm13, gm14, gm15, gm16, gm17, gm18, gm19, gm20, gm21, gm22, rvM, hm, hlt, fitb, comN]
  | succ c ih =>
    intro k b hk
    have hlt : I k < I m := by rw [I_lt (by omega) (by omega)]; omega
    have hr := rn7 h g A r (p := p) (n := k) (by omega)
    have ih1 := ih (k + 1) true (by omega)
    have ih0 := ih (k + 1) false (by omega)
    rw [x179_4]
    simp only [x179_0, x179_1, x179_2, x179_3, x179_5, x179_6, x179_9, x179_12, x179_13, x179_16, x179_17, x179_20, x179_21, x179_22, x179_23, x179_26, x179_27, x179_31, x179_32, x179_35, x179_30, x179_38, x179_39, gk_some, pk_some, qk_some, bnd_v, bnd_n, kl_int, kl_ref, kl_null, kl_un, Nat.reduceAdd, if_true, if_false, gm0, gm1, gm2, gm3, gm4, gm5, gm6, gm7, gm8, gm9, gm10, gm11, gm12, gm13, gm14, gm15, gm16, gm17, gm18, gm19, gm20, gm21, gm22, rvM, hm, hlt, comN]
    cases b with
    | true =>
      simp only [fit1, fit0, fitb, b2i_t, b2i_f, reduceIte, decide_true, decide_false] at ih1
      simp only [fit1, fit0, fitb, b2i_t, b2i_f, reduceIte, decide_true, decide_false, ne10, x179_0, x179_1, x179_2, x179_3, x179_5, x179_6, x179_9, x179_12, x179_13, x179_16, x179_17, x179_20, x179_21, x179_22, x179_23, x179_26, x179_27, x179_31, x179_32, x179_35, x179_30, x179_38, x179_39, gk_some, pk_some, qk_some, bnd_v, bnd_n, kl_int, kl_ref, kl_null, kl_un, Nat.reduceAdd, if_true, if_false, I_1, Ia2, Ia3, Ia4, Ia5, Ia6, Ia7, Ia8, Ia9, Ia10, Ia11, Ia12, Il9, Il16, Il22, Il76, Im9, ih1, Bool.true_or]
    | false =>
      simp only [fit1, fit0, fitb, b2i_t, b2i_f, reduceIte, decide_true, decide_false, Bool.false_eq_true] at ih1 ih0
      by_cases e : A 7 k = v
      · simp only [fit1, fit0, fitb, b2i_t, b2i_f, reduceIte, decide_true, decide_false, Bool.false_eq_true, x179_0, x179_1, x179_2, x179_3, x179_5, x179_6, x179_9, x179_12, x179_13, x179_16, x179_17, x179_20, x179_21, x179_22, x179_23, x179_26, x179_27, x179_31, x179_32, x179_35, x179_30, x179_38, x179_39, gk_some, pk_some, qk_some, bnd_v, bnd_n, kl_int, kl_ref, kl_null, kl_un, Nat.reduceAdd, if_true, if_false, gm0, gm1, gm2, gm3, gm4, gm5, gm6, gm7, gm8, gm9, gm10, gm11, gm12, gm13, gm14, gm15, gm16, gm17, gm18, gm19, gm20, gm21, gm22, rvM, hr, e, I_1, Ia2, Ia3, Ia4, Ia5, Ia6, Ia7, Ia8, Ia9, Ia10, Ia11, Ia12, Il9, Il16, Il22, Il76, Im9, ih1, Bool.false_or]
      · simp only [fit1, fit0, fitb, b2i_t, b2i_f, reduceIte, decide_true, decide_false, Bool.false_eq_true, x179_0, x179_1, x179_2, x179_3, x179_5, x179_6, x179_9, x179_12, x179_13, x179_16, x179_17, x179_20, x179_21, x179_22, x179_23, x179_26, x179_27, x179_31, x179_32, x179_35, x179_30, x179_38, x179_39, gk_some, pk_some, qk_some, bnd_v, bnd_n, kl_int, kl_ref, kl_null, kl_un, Nat.reduceAdd, if_true, if_false, gm0, gm1, gm2, gm3, gm4, gm5, gm6, gm7, gm8, gm9, gm10, gm11, gm12, gm13, gm14, gm15, gm16, gm17, gm18, gm19, gm20, gm21, gm22, rvM, hr, e, I_1, Ia2, Ia3, Ia4, Ia5, Ia6, Ia7, Ia8, Ia9, Ia10, Ia11, Ia12, Il9, Il16, Il22, Il76, Im9, ih0, Bool.false_or]
theorem m179 {m : Nat} (hm : g 13 = I m) (h12 : m ≤ 12) (v : Int32) : rcal 179 [.ref p, .int v] (mput h p g A, r) = some (.inl (some (.int (b2i (comN (A 7) v 0 m false)))), (mput h p g A, r)) := by
  have e := l179 h g A r (p := p) hm h12 v m 0 false (by omega)
  rw [show I 0 = 0 from rfl] at e
  simp only [fit1, fit0, fitb, b2i_t, b2i_f, reduceIte, decide_true, decide_false, Bool.false_eq_true] at e
  simp only [c179, x179_0, x179_1, x179_2, x179_3, x179_5, x179_6, x179_9, x179_12, x179_13, x179_16, x179_17, x179_20, x179_21, x179_22, x179_23, x179_26, x179_27, x179_31, x179_32, x179_35, x179_30, x179_38, x179_39, gk_some, pk_some, qk_some, bnd_v, bnd_n, kl_int, kl_ref, kl_null, kl_un, Nat.reduceAdd, if_true, if_false, e]
end MREAD2
