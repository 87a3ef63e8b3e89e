/-! the reference writes its line -/
abbrev mW (h : PH) (p : Nat) (g : Nat → Int32) (A : Nat → Nat → Int32) (cs : List Int32) : PH := mput h p (up (up g 9 0) 22 (I cs.length)) (ua A 11 (wr (A 11) 0 cs))
def moW (L : LN) (n : Nat) : Nat → Nat → List Int32
  | 0, _ => []
  | fu + 1, k => stW L (I k) ++ ((if k + 1 < n then seW L (I k) else []) ++ moW L n fu (k + 1))
theorem cl_mo (L : LN) (n : Nat) : ∀ fu k, k + fu = n → clW L fu k = (if 0 < k ∧ k < n then seW L (I (k - 1)) else []) ++ moW L n fu k
  | 0, k, h => by rw [if_neg (by omega)]; rfl
  | fu + 1, k, h => by
    rw [clW, cl_mo L n fu (k + 1) (by omega), moW]
    have e : (if 0 < k + 1 ∧ k + 1 < n then seW L (I (k + 1 - 1)) else []) = if k + 1 < n then seW L (I k) else [] := by
      by_cases q : k + 1 < n
      · rw [if_pos ⟨by omega, q⟩, if_pos q]; rfl
      · rw [if_neg (fun z => q z.2), if_neg q]
    rw [e]
    by_cases q : 0 < k
    · rw [if_pos q, if_pos (show 0 < k ∧ k < n from ⟨q, by omega⟩)]
    · rw [if_neg q, if_neg (show ¬ (0 < k ∧ k < n) from fun z => q z.1)]
theorem cl_mo0 (L : LN) (n : Nat) : clW L n 0 = moW L n n 0 := by
  rw [cl_mo L n n 0 (by omega), if_neg (by omega)]; rfl
theorem filt_prs (S : List SL) (v : Int32) : (prs S).filter (staP v) = S.filter (staP v) := by
  unfold prs
  rw [List.filter_filter]
  refine List.filter_congr fun s _ => ?_
  unfold staP
  by_cases e : s.2.1 = 3
  · simp [e]
  · simp [e]
theorem hol_prs (v : Int32) : ∀ s, holP v s = true → s.2.1 ≠ 1 := fun s q => by
  unfold holP at q; simp only [Bool.and_eq_true, decide_eq_true_eq] at q; rw [q.1]; decide
section WMOD
variable (h : PH) {p : Nat} (g : Nat → Int32) (A : Nat → Nat → Int32) (r : Nat × Nat × Nat)
theorem mW_c (hp : 32 ≤ p) {cs : List Int32} (hl : cs.length < 120) (v : Int32) : rcal 236 [.ref p, .int v] (mW h p g A cs, r) = some (.inl none, (mW h p g A (cs ++ [v]), r)) := by
  have e := m236 h (up (up g 9 0) 22 (I cs.length)) (ua A 11 (wr (A 11) 0 cs)) r hp hl (up_eq _ _ _) v
  rw [up_up, ua_ua, ua_eq] at e
  rw [e]
  unfold mW
  rw [List.length_append, List.length_singleton, wr_app, Nat.zero_add]
  rfl
theorem mW_n (hp : 32 ≤ p) {cs : List Int32} (hl : cs.length + 8 < 120) {m : Nat} (hm : m < 1000000000) : rcal 237 [.ref p, .int (I m)] (mW h p g A cs, r) = some (.inl none, (mW h p g A (cs ++ dgts m (tpd m 8 0)), r)) := by
  have e := m237 h r hp hm (up (up g 9 0) 22 (I cs.length)) (ua A 11 (wr (A 11) 0 cs)) (up_eq _ _ _) hl
  rw [up_up, ua_ua, ua_eq] at e
  rw [e]
  unfold mW
  rw [List.length_append, dgts_len, wr_app, Nat.zero_add]
  rfl
theorem mW_0 (hp : 32 ≤ p) (k : Nat) (x y : Nat) (L st : List Value) : pfd (mput h p (up g 9 0) A, r) true 5 22 p (.int 0) = some (mW h p g A [], r) := by
  rw [pm22 h _ _ r hp 0]
  unfold mW
  rw [show wr (A 11) 0 [] = A 11 from rfl, ua_self]
  rfl
theorem l238 (hp : 32 ≤ p) {P : List SL} (hT : TRel (A 1) P) {v : Int32} (hN : ∀ t, t ∈ P → staP v t = true → nbK t) : ∀ (R D : List SL) (k : Nat) (cs : List Int32), P = D ++ R → cs.length + 4 * (R.filter (staP v)).length ≤ 108 → k ≤ D.length → rn 238 32 [.ref p, .int v, .int (I k), .int (I D.length)] [] (mW h p g A cs, r) = rn 238 104 [.ref p, .int v, .int (I (k + (R.filter (staP v)).length)), .int (I P.length)] [] (mW h p g A (cs ++ trW (R.filter (staP v)) (decide (k = 0))), r) := by
  have h6 := hT.2.1
  intro R
  induction R with
  | nil =>
    intro D k cs hP hl hk
    have hT' : TRel (ua A 11 (wr (A 11) 0 cs) 1) P := by rw [ua_ne _ _ (by decide)]; exact hT
    have hD : P.length = D.length := by rw [hP]; simp
    have hnl := nlt_end hP
    rw [hD] at hnl
    rw [x238_32]
    simp only [x238_33, x238_34, x238_37, x238_38, x238_39, gk_some, pk_some, qk_some, bnd_v, bnd_n, kl_int, kl_ref, kl_null, kl_un, Nat.reduceAdd, if_true, if_false, gm0, gm1, gm2, gm3, gm4, gm5, gm6, gm7, gm8, gm9, gm10, gm11, gm12, gm13, gm14, gm15, gm16, gm17, gm18, gm19, gm20, gm21, gm22, rvM, rl0, rl1, rl2, rl3, rl4, rl5, rl6, rl7, rl8, hT'.1, hnl, List.filter_nil, trW, List.append_nil, List.length_nil, Nat.add_zero, hD]
  | cons s R ih =>
    intro D k cs hP hl hk
    have hT' : TRel (ua A 11 (wr (A 11) 0 cs) 1) P := by rw [ua_ne _ _ (by decide)]; exact hT
    have hDl : D.length < 6 := by rw [hP] at h6; simp at h6; omega
    have hr := mrd h (up (up g 9 0) 22 (I cs.length)) (ua A 11 (wr (A 11) 0 cs)) r (p := p) hT' hP
    rw [x238_32]
    by_cases e : s.2.1 = 3 ∧ s.2.2 6 = v
    · have e2 : staP v s = true := by simp [staP, e.1, e.2]
      obtain ⟨e3, e6⟩ := e
      rw [List.filter_cons_of_pos e2] at hl ⊢
      rw [List.length_cons] at hl ⊢
      obtain ⟨m, m1, m2⟩ := hN s (by rw [hP]; simp) e2
      have hnl := nbW_len ⟨m, m1, m2⟩
      have hnw := nbW_of m1 m2
      have n43 : ¬ (3 : Nat) = 4 := by decide
      by_cases k0 : k = 0
      · subst k0
        have o0 : ¬ (0 : Int32) < I 0 := by decide
        have t1 := mW_n h g A r hp (cs := cs) (m := m) (by omega) (by omega)
        have hr0 := mrd0 h (up (up g 9 0) 22 (I cs.length)) (ua A 11 (wr (A 11) 0 cs)) r (p := p) hT' hP
        rw [m1] at hr0
        have ih' := ih (D ++ [s]) 1 (cs ++ dgts m (tpd m 8 0)) (sub_ hP) (by rw [List.length_append, ← hnw]; omega) (by simp)
        rw [← len_] at ih'
        simp only [x238_0, x238_1, x238_2, x238_5, x238_6, x238_7, x238_10, x238_11, x238_12, x238_13, x238_14, x238_17, x238_18, x238_19, x238_22, x238_23, x238_25, x238_28, x238_29, x238_30, x238_31, x238_33, x238_34, x238_37, x238_38, x238_39, x238_42, x238_43, x238_46, x238_47, x238_50, x238_51, x238_52, x238_53, x238_54, x238_57, x238_58, x238_61, x238_62, x238_65, x238_66, x238_67, x238_68, x238_69, x238_72, x238_73, x238_76, x238_77, x238_79, x238_82, x238_83, x238_84, x238_87, x238_88, x238_91, x238_92, x238_95, x238_98, x238_101, x238_105, x238_107, x238_110, x238_111, x238_112, x238_115, x238_116, x238_117, x238_118, x238_119, x238_122, x238_123, x238_124, x238_127, x238_128, x238_129, x238_130, x238_133, x238_134, x238_136, x238_139, x238_174, x238_177, x238_142, x238_143, x238_144, x238_145, x238_148, x238_151, x238_153, x238_158, x238_161, x238_162, x238_163, x238_166, x238_167, x238_170, x238_171, x238_156, x238_180, x238_181, x238_184, gk_some, pk_some, qk_some, bnd_v, bnd_n, kl_int, kl_ref, kl_null, kl_un, Nat.reduceAdd, if_true, if_false, gm0, gm1, gm2, gm3, gm4, gm5, gm6, gm7, gm8, gm9, gm10, gm11, gm12, gm13, gm14, gm15, gm16, gm17, gm18, gm19, gm20, gm21, gm22, rvM, rl0, rl1, rl2, rl3, rl4, rl5, rl6, rl7, rl8, hT'.1, mlt (ua A 11 (wr (A 11) 0 cs)) hT' hP, m154, I_1, Ia2, Ia3, Ia4, Ia5, Ia6, Ia7, Ia8, Ia9, Ia10, Ia11, Ia12, Il9, Il16, Il22, Il76, Im9, hr, show 4 < 9 by decide, show 5 < 9 by decide, mt, whr_1, e3, plc, n43, e6, o0, hr0, t1, rvM]
        simp only [I_1] at ih' ⊢
        rw [ih', trW, if_pos (by decide), hnw]
        simp only [List.append_assoc, List.nil_append]
        rw [show 1 + (List.filter (staP v) R).length = 0 + ((List.filter (staP v) R).length + 1) by omega]
        rfl
      · have o0 : (0 : Int32) < I k := (I_lt (a := 0) (by decide) (by omega)).mpr (by omega)
        have t0 := mW_c h g A r hp (cs := cs) (by omega) 44
        have t1 := mW_n h g A r hp (cs := cs ++ [44]) (m := m) (by rw [List.length_append, List.length_singleton]; omega) (by omega)
        have hT2 : TRel (ua A 11 (wr (A 11) 0 (cs ++ [44])) 1) P := by rw [ua_ne _ _ (by decide)]; exact hT
        have hr0 := mrd0 h (up (up g 9 0) 22 (I (cs ++ [44]).length)) (ua A 11 (wr (A 11) 0 (cs ++ [44]))) r (p := p) hT2 hP
        rw [m1] at hr0
        have ih' := ih (D ++ [s]) (k + 1) (cs ++ [44] ++ dgts m (tpd m 8 0)) (sub_ hP) (by rw [List.length_append, List.length_append, List.length_singleton, ← hnw]; omega) (by simp; omega)
        rw [← len_] at ih'
        simp only [x238_0, x238_1, x238_2, x238_5, x238_6, x238_7, x238_10, x238_11, x238_12, x238_13, x238_14, x238_17, x238_18, x238_19, x238_22, x238_23, x238_25, x238_28, x238_29, x238_30, x238_31, x238_33, x238_34, x238_37, x238_38, x238_39, x238_42, x238_43, x238_46, x238_47, x238_50, x238_51, x238_52, x238_53, x238_54, x238_57, x238_58, x238_61, x238_62, x238_65, x238_66, x238_67, x238_68, x238_69, x238_72, x238_73, x238_76, x238_77, x238_79, x238_82, x238_83, x238_84, x238_87, x238_88, x238_91, x238_92, x238_95, x238_98, x238_101, x238_105, x238_107, x238_110, x238_111, x238_112, x238_115, x238_116, x238_117, x238_118, x238_119, x238_122, x238_123, x238_124, x238_127, x238_128, x238_129, x238_130, x238_133, x238_134, x238_136, x238_139, x238_174, x238_177, x238_142, x238_143, x238_144, x238_145, x238_148, x238_151, x238_153, x238_158, x238_161, x238_162, x238_163, x238_166, x238_167, x238_170, x238_171, x238_156, x238_180, x238_181, x238_184, gk_some, pk_some, qk_some, bnd_v, bnd_n, kl_int, kl_ref, kl_null, kl_un, Nat.reduceAdd, if_true, if_false, gm0, gm1, gm2, gm3, gm4, gm5, gm6, gm7, gm8, gm9, gm10, gm11, gm12, gm13, gm14, gm15, gm16, gm17, gm18, gm19, gm20, gm21, gm22, rvM, rl0, rl1, rl2, rl3, rl4, rl5, rl6, rl7, rl8, hT'.1, mlt (ua A 11 (wr (A 11) 0 cs)) hT' hP, m154, I_1, Ia2, Ia3, Ia4, Ia5, Ia6, Ia7, Ia8, Ia9, Ia10, Ia11, Ia12, Il9, Il16, Il22, Il76, Im9, hr, show 4 < 9 by decide, show 5 < 9 by decide, mt, whr_1, e3, plc, n43, e6, o0, t0, hr0, t1, rvM]
        simp only [I_1] at ih' ⊢
        rw [ih', trW, if_neg (by simp [k0]), hnw]
        simp only [List.append_assoc]
        rw [show k + 1 + (List.filter (staP v) R).length = k + ((List.filter (staP v) R).length + 1) by omega]
        rfl
    · have e2 : ¬ staP v s = true := by
        unfold staP
        simp only [Bool.and_eq_true, decide_eq_true_eq]
        exact e
      rw [List.filter_cons_of_neg e2] at hl ⊢
      have ih' := ih (D ++ [s]) k cs (sub_ hP) hl (by simp; omega)
      rw [← len_] at ih'
      by_cases e3 : s.2.1 = 3
      · have e6 : ¬ s.2.2 6 = v := fun z => e ⟨e3, z⟩
        have n43 : ¬ (3 : Nat) = 4 := by decide
        simp only [x238_0, x238_1, x238_2, x238_5, x238_6, x238_7, x238_10, x238_11, x238_12, x238_13, x238_14, x238_17, x238_18, x238_19, x238_22, x238_23, x238_25, x238_28, x238_29, x238_30, x238_31, x238_33, x238_34, x238_37, x238_38, x238_39, x238_42, x238_43, x238_46, x238_47, x238_50, x238_51, x238_52, x238_53, x238_54, x238_57, x238_58, x238_61, x238_62, x238_65, x238_66, x238_67, x238_68, x238_69, x238_72, x238_73, x238_76, x238_77, x238_79, x238_82, x238_83, x238_84, x238_87, x238_88, x238_91, x238_92, x238_95, x238_98, x238_101, x238_105, x238_107, x238_110, x238_111, x238_112, x238_115, x238_116, x238_117, x238_118, x238_119, x238_122, x238_123, x238_124, x238_127, x238_128, x238_129, x238_130, x238_133, x238_134, x238_136, x238_139, x238_174, x238_177, x238_142, x238_143, x238_144, x238_145, x238_148, x238_151, x238_153, x238_158, x238_161, x238_162, x238_163, x238_166, x238_167, x238_170, x238_171, x238_156, x238_180, x238_181, x238_184, gk_some, pk_some, qk_some, bnd_v, bnd_n, kl_int, kl_ref, kl_null, kl_un, Nat.reduceAdd, if_true, if_false, gm0, gm1, gm2, gm3, gm4, gm5, gm6, gm7, gm8, gm9, gm10, gm11, gm12, gm13, gm14, gm15, gm16, gm17, gm18, gm19, gm20, gm21, gm22, rvM, rl0, rl1, rl2, rl3, rl4, rl5, rl6, rl7, rl8, hT'.1, mlt (ua A 11 (wr (A 11) 0 cs)) hT' hP, m154, I_1, Ia2, Ia3, Ia4, Ia5, Ia6, Ia7, Ia8, Ia9, Ia10, Ia11, Ia12, Il9, Il16, Il22, Il76, Im9, hr, show 4 < 9 by decide, show 5 < 9 by decide, mt, whr_1, e3, plc, n43, e6]
        simp only [I_1] at ih' ⊢
        exact ih'
      · simp only [x238_0, x238_1, x238_2, x238_5, x238_6, x238_7, x238_10, x238_11, x238_12, x238_13, x238_14, x238_17, x238_18, x238_19, x238_22, x238_23, x238_25, x238_28, x238_29, x238_30, x238_31, x238_33, x238_34, x238_37, x238_38, x238_39, x238_42, x238_43, x238_46, x238_47, x238_50, x238_51, x238_52, x238_53, x238_54, x238_57, x238_58, x238_61, x238_62, x238_65, x238_66, x238_67, x238_68, x238_69, x238_72, x238_73, x238_76, x238_77, x238_79, x238_82, x238_83, x238_84, x238_87, x238_88, x238_91, x238_92, x238_95, x238_98, x238_101, x238_105, x238_107, x238_110, x238_111, x238_112, x238_115, x238_116, x238_117, x238_118, x238_119, x238_122, x238_123, x238_124, x238_127, x238_128, x238_129, x238_130, x238_133, x238_134, x238_136, x238_139, x238_174, x238_177, x238_142, x238_143, x238_144, x238_145, x238_148, x238_151, x238_153, x238_158, x238_161, x238_162, x238_163, x238_166, x238_167, x238_170, x238_171, x238_156, x238_180, x238_181, x238_184, gk_some, pk_some, qk_some, bnd_v, bnd_n, kl_int, kl_ref, kl_null, kl_un, Nat.reduceAdd, if_true, if_false, gm0, gm1, gm2, gm3, gm4, gm5, gm6, gm7, gm8, gm9, gm10, gm11, gm12, gm13, gm14, gm15, gm16, gm17, gm18, gm19, gm20, gm21, gm22, rvM, rl0, rl1, rl2, rl3, rl4, rl5, rl6, rl7, rl8, hT'.1, mlt (ua A 11 (wr (A 11) 0 cs)) hT' hP, m154, I_1, Ia2, Ia3, Ia4, Ia5, Ia6, Ia7, Ia8, Ia9, Ia10, Ia11, Ia12, Il9, Il16, Il22, Il76, Im9, hr, show 4 < 9 by decide, show 5 < 9 by decide, mt, whr_1, e3]
        simp only [I_1] at ih' ⊢
        exact ih'
theorem k238 (hp : 32 ≤ p) {L : LN} (hT : TRel (A 1) (prs L.2.2.2.2)) (hN : ∀ t, t ∈ L.2.2.2.2 → t.2.1 ≠ 1 → nbK t) {n : Nat} (hn : A 1 0 = I n) (h7 : n ≤ 7) : ∀ (fu k : Nat) (cs : List Int32) (y2 y3 : Value), k + fu = n → cs.length + 6 * fu + 4 * cnF L.2.2.2.2 fu k ≤ 100 → (∀ u : Value, kl u = kl u) → rn 238 12 [.ref p, .int (I k), y2, y3] [] (mW h p g A cs, r) = some (.inl (some (.int (I (cs ++ moW L n fu k).length))), (mW h p g A (cs ++ moW L n fu k), r)) := by
  have hS : ∀ v t, t ∈ L.2.2.2.2 → staP v t = true → nbK t := fun v t ht q => hN t ht (by
    unfold staP at q; simp only [Bool.and_eq_true, decide_eq_true_eq] at q; rw [q.1]; decide)
  have hSp : ∀ v t, t ∈ prs L.2.2.2.2 → staP v t = true → nbK t := fun v t ht => hS v t (List.mem_filter.mp ht).1
  have hH : ∀ v t, t ∈ L.2.2.2.2 → holP v t = true → nbK t := fun v t ht q => hN t ht (hol_prs v t q)
  intro fu
  induction fu with
  | zero =>
    intro k cs y2 y3 hk hl _
    have nk : ¬ I k < I n := fun z => by have := (I_lt (by omega) (by omega)).mp z; omega
    have a0 : ua A 11 (wr (A 11) 0 cs) 1 0 = I n := by rw [ua_ne _ _ (by decide)]; exact hn
    simp only [moW, List.append_nil]
    rw [x238_12]
    simp only [x238_13, x238_14, x238_17, x238_18, x238_19, x238_180, x238_181, x238_184, gk_some, pk_some, qk_some, bnd_v, bnd_n, kl_int, kl_ref, kl_null, kl_un, Nat.reduceAdd, if_true, if_false, gm0, gm1, gm2, gm3, gm4, gm5, gm6, gm7, gm8, gm9, gm10, gm11, gm12, gm13, gm14, gm15, gm16, gm17, gm18, gm19, gm20, gm21, gm22, rvM, rl0, rl1, rl2, rl3, rl4, rl5, rl6, rl7, rl8, a0, nk, up_eq]
  | succ fu ih =>
    intro k cs y2 y3 hk hl hu
    have nk : I k < I n := (I_lt (by omega) (by omega)).mpr (by omega)
    have a0 : ∀ cs, ua A 11 (wr (A 11) 0 cs) 1 0 = I n := fun cs => by rw [ua_ne _ _ (by decide)]; exact hn
    rw [cnF] at hl
    have hst := stW_len (hS (I k))
    have t0 := mW_c h g A r hp (cs := cs) (by omega) 91
    have li := l238 h g A r hp hT (hSp (I k)) (prs L.2.2.2.2) [] 0 (cs ++ [91]) rfl (by rw [filt_prs, List.length_append, List.length_singleton]; omega) (Nat.le_refl _)
    rw [filt_prs, Nat.zero_add, show decide (0 = 0) = true from rfl, List.length_nil, show I 0 = 0 from rfl] at li
    have htr := trW_len (L.2.2.2.2.filter (staP (I k))) true (fun t ht => hS _ t (List.mem_filter.mp ht).1 (List.mem_filter.mp ht).2)
    have t2 := mW_c h g A r hp (cs := cs ++ [91] ++ trW (L.2.2.2.2.filter (staP (I k))) true) (by rw [List.length_append, List.length_append, List.length_singleton]; omega) 93
    have est : cs ++ [91] ++ trW (L.2.2.2.2.filter (staP (I k))) true ++ [93] = cs ++ stW L (I k) := by
      unfold stW; simp only [List.append_assoc]
    rw [est] at t2
    have n1 : I n - 1 = I (n - 1) := I_sub1 (by omega)
    rw [moW]
    by_cases q : k + 1 < n
    · have q1 : I k < I (n - 1) := (I_lt (by omega) (by omega)).mpr (by omega)
      have hT' : TRel (ua A 11 (wr (A 11) 0 (cs ++ stW L (I k))) 1) (prs L.2.2.2.2) := by rw [ua_ne _ _ (by decide)]; exact hT
      have t160 := m160 h (up (up g 9 0) 22 (I (cs ++ stW L (I k)).length)) (ua A 11 (wr (A 11) 0 (cs ++ stW L (I k)))) r (p := p) hT' (I k)
      have hse := seW_len (hH (I k))
      have hlen : (cs ++ stW L (I k)).length ≤ cs.length + (2 + 4 * (L.2.2.2.2.filter (staP (I k))).length) := by rw [List.length_append]; omega
      rw [if_pos q]
      have ih' := fun y2 y3 => ih (k + 1) (cs ++ stW L (I k) ++ seW L (I k)) y2 y3 (by omega) (by rw [List.length_append]; omega) hu
      rw [← I_1] at ih'
      have hfp := find_prs (q := holP (I k)) (hol_prs (I k)) L.2.2.2.2
      cases hf : L.2.2.2.2.find? (holP (I k)) with
      | none =>
        rw [fidx_none 0 (by rw [hfp]; exact hf)] at t160
        have es : seW L (I k) = [45] := by unfold seW; rw [hf]
        have t3 := mW_c h g A r hp (cs := cs ++ stW L (I k)) (by omega) 45
        rw [es] at ih' ⊢
        rw [x238_12]
        simp only [x238_0, x238_1, x238_2, x238_5, x238_6, x238_7, x238_10, x238_11, x238_13, x238_14, x238_17, x238_18, x238_19, x238_22, x238_23, x238_25, x238_28, x238_29, x238_30, x238_31, x238_33, x238_34, x238_37, x238_38, x238_39, x238_42, x238_43, x238_46, x238_47, x238_50, x238_51, x238_52, x238_53, x238_54, x238_57, x238_58, x238_61, x238_62, x238_65, x238_66, x238_67, x238_68, x238_69, x238_72, x238_73, x238_76, x238_77, x238_79, x238_82, x238_83, x238_84, x238_87, x238_88, x238_91, x238_92, x238_95, x238_98, x238_101, x238_104, x238_105, x238_107, x238_110, x238_111, x238_112, x238_115, x238_116, x238_117, x238_118, x238_119, x238_122, x238_123, x238_124, x238_127, x238_128, x238_129, x238_130, x238_133, x238_134, x238_136, x238_139, x238_174, x238_177, x238_142, x238_143, x238_144, x238_145, x238_148, x238_151, x238_153, x238_158, x238_161, x238_162, x238_163, x238_166, x238_167, x238_170, x238_171, x238_156, x238_180, x238_181, x238_184, gk_some, pk_some, qk_some, bnd_v, bnd_n, kl_int, kl_ref, kl_null, kl_un, Nat.reduceAdd, if_true, if_false, gm0, gm1, gm2, gm3, gm4, gm5, gm6, gm7, gm8, gm9, gm10, gm11, gm12, gm13, gm14, gm15, gm16, gm17, gm18, gm19, gm20, gm21, gm22, rvM, rl0, rl1, rl2, rl3, rl4, rl5, rl6, rl7, rl8, rvM, a0, nk, t0, li, t2, n1, q1, t160, t3, ih']
        simp only [List.append_assoc]
      | some t =>
        obtain ⟨D, R, hP, hfi⟩ := fidx_some (q := holP (I k)) (P := prs L.2.2.2.2) 0 (by rw [hfp]; exact hf)
        rw [hfi, Nat.zero_add] at t160
        have hD6 : D.length < 6 := by have := hT.2.1; rw [hP] at this; simp at this; omega
        have n9 : ¬ I D.length = -1 := fun y => by
          have y2 : Z (I D.length) = -1 := by rw [y]; rfl
          rw [Z_I (by omega)] at y2; omega
        have t158 := m158 h (up (up g 9 0) 22 (I (cs ++ stW L (I k)).length)) (ua A 11 (wr (A 11) 0 (cs ++ stW L (I k)))) r (p := p) hT' hP
        have ht := List.mem_of_find?_eq_some hf
        have hh : holP (I k) t = true := by have := List.find?_some hf; exact this
        obtain ⟨m, m1, m2⟩ := hH (I k) t ht hh
        have hnw := nbW_of m1 m2
        have es : seW L (I k) = [if 0 < wayT t.2 then 62 else 60] ++ dgts m (tpd m 8 0) := by
          unfold seW; rw [hf, ← hnw]; rfl
        have t3 := mW_c h g A r hp (cs := cs ++ stW L (I k)) (by omega) (if 0 < wayT t.2 then 62 else 60)
        have t4 := mW_n h g A r hp (cs := cs ++ stW L (I k) ++ [if 0 < wayT t.2 then 62 else 60]) (m := m) (by rw [List.length_append, List.length_singleton]; omega) (by omega)
        have hT2 : TRel (ua A 11 (wr (A 11) 0 (cs ++ stW L (I k) ++ [if 0 < wayT t.2 then 62 else 60])) 1) (prs L.2.2.2.2) := by rw [ua_ne _ _ (by decide)]; exact hT
        have hr0 := mrd0 h (up (up g 9 0) 22 (I (cs ++ stW L (I k) ++ [if 0 < wayT t.2 then 62 else 60]).length)) (ua A 11 (wr (A 11) 0 (cs ++ stW L (I k) ++ [if 0 < wayT t.2 then 62 else 60]))) r (p := p) hT2 hP
        rw [m1] at hr0
        rw [es] at ih' ⊢
        rw [x238_12]
        by_cases w : 0 < wayT t.2
        · simp only [if_pos w] at t3 t4 hr0 ih' ⊢
          simp only [← List.append_assoc] at ih'
          simp only [x238_0, x238_1, x238_2, x238_5, x238_6, x238_7, x238_10, x238_11, x238_13, x238_14, x238_17, x238_18, x238_19, x238_22, x238_23, x238_25, x238_28, x238_29, x238_30, x238_31, x238_33, x238_34, x238_37, x238_38, x238_39, x238_42, x238_43, x238_46, x238_47, x238_50, x238_51, x238_52, x238_53, x238_54, x238_57, x238_58, x238_61, x238_62, x238_65, x238_66, x238_67, x238_68, x238_69, x238_72, x238_73, x238_76, x238_77, x238_79, x238_82, x238_83, x238_84, x238_87, x238_88, x238_91, x238_92, x238_95, x238_98, x238_101, x238_104, x238_105, x238_107, x238_110, x238_111, x238_112, x238_115, x238_116, x238_117, x238_118, x238_119, x238_122, x238_123, x238_124, x238_127, x238_128, x238_129, x238_130, x238_133, x238_134, x238_136, x238_139, x238_174, x238_177, x238_142, x238_143, x238_144, x238_145, x238_148, x238_151, x238_153, x238_158, x238_161, x238_162, x238_163, x238_166, x238_167, x238_170, x238_171, x238_156, x238_180, x238_181, x238_184, gk_some, pk_some, qk_some, bnd_v, bnd_n, kl_int, kl_ref, kl_null, kl_un, Nat.reduceAdd, if_true, if_false, gm0, gm1, gm2, gm3, gm4, gm5, gm6, gm7, gm8, gm9, gm10, gm11, gm12, gm13, gm14, gm15, gm16, gm17, gm18, gm19, gm20, gm21, gm22, rvM, rl0, rl1, rl2, rl3, rl4, rl5, rl6, rl7, rl8, rvM, a0, nk, t0, li, t2, n1, q1, t160, n9, t158, w, t3, m154, hr0, t4, ih']
          simp only [List.append_assoc]
        · simp only [if_neg w] at t3 t4 hr0 ih' ⊢
          simp only [← List.append_assoc] at ih'
          simp only [x238_0, x238_1, x238_2, x238_5, x238_6, x238_7, x238_10, x238_11, x238_13, x238_14, x238_17, x238_18, x238_19, x238_22, x238_23, x238_25, x238_28, x238_29, x238_30, x238_31, x238_33, x238_34, x238_37, x238_38, x238_39, x238_42, x238_43, x238_46, x238_47, x238_50, x238_51, x238_52, x238_53, x238_54, x238_57, x238_58, x238_61, x238_62, x238_65, x238_66, x238_67, x238_68, x238_69, x238_72, x238_73, x238_76, x238_77, x238_79, x238_82, x238_83, x238_84, x238_87, x238_88, x238_91, x238_92, x238_95, x238_98, x238_101, x238_104, x238_105, x238_107, x238_110, x238_111, x238_112, x238_115, x238_116, x238_117, x238_118, x238_119, x238_122, x238_123, x238_124, x238_127, x238_128, x238_129, x238_130, x238_133, x238_134, x238_136, x238_139, x238_174, x238_177, x238_142, x238_143, x238_144, x238_145, x238_148, x238_151, x238_153, x238_158, x238_161, x238_162, x238_163, x238_166, x238_167, x238_170, x238_171, x238_156, x238_180, x238_181, x238_184, gk_some, pk_some, qk_some, bnd_v, bnd_n, kl_int, kl_ref, kl_null, kl_un, Nat.reduceAdd, if_true, if_false, gm0, gm1, gm2, gm3, gm4, gm5, gm6, gm7, gm8, gm9, gm10, gm11, gm12, gm13, gm14, gm15, gm16, gm17, gm18, gm19, gm20, gm21, gm22, rvM, rl0, rl1, rl2, rl3, rl4, rl5, rl6, rl7, rl8, rvM, a0, nk, t0, li, t2, n1, q1, t160, n9, t158, w, t3, m154, hr0, t4, ih']
          simp only [List.append_assoc]
    · have q1 : ¬ I k < I (n - 1) := fun z => by have := (I_lt (by omega) (by omega)).mp z; omega
      rw [if_neg q, List.nil_append]
      have ih' := fun y2 y3 => ih (k + 1) (cs ++ stW L (I k)) y2 y3 (by omega) (by rw [List.length_append]; omega) hu
      rw [← I_1] at ih'
      rw [x238_12]
      simp only [x238_0, x238_1, x238_2, x238_5, x238_6, x238_7, x238_10, x238_11, x238_13, x238_14, x238_17, x238_18, x238_19, x238_22, x238_23, x238_25, x238_28, x238_29, x238_30, x238_31, x238_33, x238_34, x238_37, x238_38, x238_39, x238_42, x238_43, x238_46, x238_47, x238_50, x238_51, x238_52, x238_53, x238_54, x238_57, x238_58, x238_61, x238_62, x238_65, x238_66, x238_67, x238_68, x238_69, x238_72, x238_73, x238_76, x238_77, x238_79, x238_82, x238_83, x238_84, x238_87, x238_88, x238_91, x238_92, x238_95, x238_98, x238_101, x238_104, x238_105, x238_107, x238_110, x238_111, x238_112, x238_115, x238_116, x238_117, x238_118, x238_119, x238_122, x238_123, x238_124, x238_127, x238_128, x238_129, x238_130, x238_133, x238_134, x238_136, x238_139, x238_174, x238_177, x238_142, x238_143, x238_144, x238_145, x238_148, x238_151, x238_153, x238_158, x238_161, x238_162, x238_163, x238_166, x238_167, x238_170, x238_171, x238_156, x238_180, x238_181, x238_184, gk_some, pk_some, qk_some, bnd_v, bnd_n, kl_int, kl_ref, kl_null, kl_un, Nat.reduceAdd, if_true, if_false, gm0, gm1, gm2, gm3, gm4, gm5, gm6, gm7, gm8, gm9, gm10, gm11, gm12, gm13, gm14, gm15, gm16, gm17, gm18, gm19, gm20, gm21, gm22, rvM, rl0, rl1, rl2, rl3, rl4, rl5, rl6, rl7, rl8, rvM, a0, nk, t0, li, t2, n1, q1, ih']
      simp only [List.append_assoc]
theorem m238 (hp : 32 ≤ p) {L : LN} (hT : TRel (A 1) (prs L.2.2.2.2)) (hN : ∀ t, t ∈ L.2.2.2.2 → t.2.1 ≠ 1 → nbK t) {n : Nat} (hn : A 1 0 = I n) (h7 : n ≤ 7) (hl : 6 * n + 4 * cnF L.2.2.2.2 n 0 ≤ 100) : rcal 238 [.ref p] (mput h p g A, r) = some (.inl (some (.int (I (moW L n n 0).length))), (mW h p g A (moW L n n 0), r)) := by
  have w9 := pm9 h g A r hp 0
  have w22 := mW_0 h g A r hp 0 0 0 [] []
  have k := fun y2 y3 => k238 h g A r hp hT hN hn h7 n 0 [] y2 y3 (by omega) (by simpa using hl) (fun _ => rfl)
  rw [show I 0 = 0 from rfl] at k
  simp only [List.nil_append] at k
  simp only [c238, x238_0, x238_1, x238_2, x238_5, x238_6, x238_7, x238_10, x238_11, gk_some, pk_some, qk_some, bnd_v, bnd_n, kl_int, kl_ref, kl_null, kl_un, Nat.reduceAdd, if_true, if_false, w9, w22, k]
end WMOD
