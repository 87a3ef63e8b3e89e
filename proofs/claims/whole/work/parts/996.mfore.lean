/-! the reference's forecasts and ranks -/
theorem pl_bd {n : Nat} {X l : Int} {tk rt : Nat → Int32} {q : LQ} (G : GI n X l tk rt q) {s : SL} (hs : s ∈ prs q.2) : 1 ≤ Z (s.2.2 5) ∧ Z (s.2.2 5) ≤ 31500 := by
  obtain ⟨g1, g2, g3, g4, g5, g6, -⟩ := G
  obtain ⟨a1, a2, a3, a4, a5, -⟩ := g6 s hs
  have hpz : Z (s.2.2 5) = Z (s.2.2 4) + WW rt (Z (s.2.2 2)) (Z (s.2.2 3)) := by
    rw [a4]; exact plan_Z g2.2 g4.1 a1 a2 (by omega)
  have hw : 0 ≤ WW rt (Z (s.2.2 2)) (Z (s.2.2 3)) ∧ WW rt (Z (s.2.2 2)) (Z (s.2.2 3)) ≤ 31 * 6 := by
    unfold WW
    split
    · have := pre_le g4.1 (Z (s.2.2 3)).toNat (Z (s.2.2 2)).toNat (by omega) (by omega); omega
    · have := pre_le g4.1 (Z (s.2.2 2)).toNat (Z (s.2.2 3)).toNat (by omega) (by omega); omega
  omega
theorem srt_ix {P D R D' R' : List SL} {t o : SL} (hs : SRT P) (h1 : P = D ++ t :: R) (h2 : P = D' ++ o :: R') : D'.length < D.length ↔ o.2.2 1 < t.2.2 1 := by
  rw [srt_iff, List.pairwise_iff_getElem] at hs
  have e1 : P[D.length]? = some t := by rw [h1]; simp
  have e2 : P[D'.length]? = some o := by rw [h2]; simp
  obtain ⟨l1, x1⟩ := List.getElem?_eq_some_iff.mp e1
  obtain ⟨l2, x2⟩ := List.getElem?_eq_some_iff.mp e2
  have z : ∀ i j (hi : i < P.length) (hj : j < P.length), i < j → (P[i]).2.2 1 < (P[j]).2.2 1 := fun i j hi hj hij => by
    have := hs i j (by rw [List.length_map]; exact hi) (by rw [List.length_map]; exact hj) hij
    simpa using this
  constructor
  · intro q
    have := z _ _ l2 l1 q
    rwa [x1, x2] at this
  · intro q
    rcases Nat.lt_trichotomy D'.length D.length with c | c | c
    · exact c
    · have : o = t := by
        have e3 := e2
        rw [c, e1] at e3
        exact (Option.some.inj e3).symm
      rw [this, Z_lt] at q
      omega
    · have := z _ _ l1 l2 c
      rw [x1, x2] at this
      rw [Z_lt] at q this
      omega
theorem rnk_cnt (S : List SL) (t : TR) : rnkN S t = I ((prs S).countP fun o => rkB o.2 t) := by
  have e : ∀ (S : List SL) (m : Nat), S.foldl (fun n s => if bef t s = true then n + 1 else n) (I m) = I (m + (prs S).countP fun o => rkB o.2 t) := by
    intro S
    induction S with
    | nil => intro m; rfl
    | cons s S ih =>
      intro m
      rw [List.foldl_cons]
      have hp : prs (s :: S) = if s.2.1 ≠ 1 then s :: prs S else prs S := by
        unfold prs
        by_cases c : s.2.1 = 1 <;> simp [c]
      have hb : bef t s = (decide (s.2.1 ≠ 1) && rkB s.2 t) := rfl
      rw [hp]
      by_cases c : s.2.1 = 1
      · rw [if_neg (show ¬ s.2.1 ≠ 1 from fun z => z c), if_neg (show ¬ bef t s = true by rw [hb]; simp [c])]
        exact ih m
      · rw [if_pos (show s.2.1 ≠ 1 from c), List.countP_cons]
        by_cases c2 : rkB s.2 t = true
        · rw [if_pos (show bef t s = true by rw [hb]; simp [c, c2]), if_pos c2, I_1, ih, show m + 1 + (prs S).countP (fun o => rkB o.2 t) = m + ((prs S).countP (fun o => rkB o.2 t) + 1) by omega]
        · rw [if_neg (show ¬ bef t s = true by rw [hb]; simp [c2]), if_neg c2, ih, Nat.add_zero]
  have z := e S 0
  rw [Nat.zero_add] at z
  exact z
section RANK
variable (h : PH) {p : Nat} (g : Nat → Int32) (A : Nat → Nat → Int32) (r : Nat × Nat × Nat) {L : LN} {X N : Int}
theorem l215i (hM : MRL (A 1) L) (hL : FL X N L) (hX : X ≤ 31100) {D R : List SL} {t : SL} (hP : prs L.2.2.2.2 = D ++ t :: R) (v : Int32) : ∀ (R' D' : List SL) (m : Nat) (z : Value), prs L.2.2.2.2 = D' ++ R' → rn 215 22 [.ref p, .int v, .int (I D.length), .int (I m), .int (I D'.length), z] [] (mput h p g A, r) = rn 215 22 [.ref p, .int v, .int (I D.length), .int (I (m + R'.countP fun o => rkB o.2 t.2)), .int (I (prs L.2.2.2.2).length), if R' = [] then z else .int 7] [] (mput h p g A, r) ∨ ∃ z', rn 215 22 [.ref p, .int v, .int (I D.length), .int (I m), .int (I D'.length), z] [] (mput h p g A, r) = rn 215 22 [.ref p, .int v, .int (I D.length), .int (I (m + R'.countP fun o => rkB o.2 t.2)), .int (I (prs L.2.2.2.2).length), z'] [] (mput h p g A, r) := by
  have hT := hM.2.1
  have h6 := hT.2.1
  obtain ⟨n, G, -, hW, -⟩ := id hL
  have hs : SRT (prs L.2.2.2.2) := G.2.2.2.2.2.2.1
  intro R'
  induction R' with
  | nil =>
    intro D' m z hP'
    have e : D' = prs L.2.2.2.2 := by rw [hP']; simp
    rw [e]
    exact Or.inr ⟨z, rfl⟩
  | cons o R' ih =>
    intro D' m z hP'
    have ro := mrd h g A r (p := p) hT hP'
    have rt := mrd h g A r (p := p) hT hP
    have ro8 := ro 8 (by decide)
    have rt8 := rt 8 (by decide)
    simp only [mt] at ro8 rt8
    have hlt := mlt A hT hP'
    have mo : o ∈ prs L.2.2.2.2 := by rw [hP']; simp
    have mt' : t ∈ prs L.2.2.2.2 := by rw [hP]; simp
    have wo := hW o mo
    have wt := hW t mt'
    have po := pl_bd G mo
    have pt := pl_bd G mt'
    have v1 := v165 h A r (p := p) hM hL hP g
    have v2 := v165 h A r (p := p) hM hL hP' g
    have ix := srt_ix hs hP hP'
    have hDl : D.length < 7 := by rw [hP] at h6; simp at h6; omega
    have hDl' : D'.length < 7 := by rw [hP'] at h6; simp at h6; omega
    have zs1 : Z (o.2.2 10 - t.2.2 10) = Z (o.2.2 10) - Z (t.2.2 10) := Z_sub (by omega) (by omega)
    have zs2 : Z (t.2.2 5 - o.2.2 5) = Z (t.2.2 5) - Z (o.2.2 5) := Z_sub (by omega) (by omega)
    have st : ∃ z', rn 215 22 [.ref p, .int v, .int (I D.length), .int (I m), .int (I D'.length), z] [] (mput h p g A, r) = rn 215 22 [.ref p, .int v, .int (I D.length), .int (I (if rkB o.2 t.2 = true then m + 1 else m)), .int (I (D'.length + 1)), z'] [] (mput h p g A, r) := by
      have pz : ∀ x : Int32, x = 0 ↔ Z x = 0 := fun x => ⟨fun e => by rw [e]; rfl, fun e => Int32.toInt_inj.mp e⟩
      have z0 : I m + 0 = I m := I_add m 0
      rw [x215_22, x215_24, x215_25]
      by_cases c1 : o.2.2 10 - t.2.2 10 = 0
      · have e1 : o.2.2 10 = t.2.2 10 := by
          have := (pz _).mp c1
          refine Int32.toInt_inj.mp ?_
          show Z (o.2.2 10) = Z (t.2.2 10)
          omega
        by_cases c2 : 0 < t.2.2 5 - o.2.2 5
        · have q : rkB o.2 t.2 = true := by
            have c3 := c2
            rw [Z_lt, zs2, Z_0] at c3
            have n5 : ¬ o.2.2 5 = t.2.2 5 := fun z => by rw [z] at c3; omega
            unfold rkB
            rw [if_pos e1, if_neg n5]
            exact decide_eq_true (Z_lt.mpr (by omega))
          refine ⟨.int (t.2.2 5 - o.2.2 5), ?_⟩
          rw [if_pos q]
          simp only [x215_0, x215_1, x215_2, x215_5, x215_6, x215_7, x215_8, x215_9, x215_12, x215_13, x215_14, x215_17, x215_18, x215_19, x215_20, x215_28, x215_29, x215_30, x215_33, x215_34, x215_37, x215_39, x215_42, x215_44, x215_45, x215_46, x215_47, x215_50, x215_51, x215_54, x215_56, x215_57, x215_58, x215_59, x215_61, x215_63, x215_66, x215_67, x215_68, x215_71, x215_72, x215_74, x215_77, x215_78, x215_83, x215_85, x215_86, x215_88, x215_91, x215_93, x215_96, x215_98, x215_99, x215_102, x215_103, x215_107, x215_108, x215_109, x215_112, x215_106, x215_81, x215_115, x215_116, x215_117, x215_120, x215_121, x215_124, x215_125, x215_128, x215_129, x215_130, x215_133, x215_136, x215_137, x215_138, x215_141, gk_some, pk_some, qk_some, bnd_v, bnd_n, kl_int, kl_ref, kl_null, kl_un, Nat.reduceAdd, if_true, if_false, gm0, gm1, gm2, gm3, gm4, gm5, gm6, gm7, gm8, gm9, gm10, gm11, gm12, gm13, gm14, gm15, gm16, gm17, gm18, gm19, gm20, gm21, gm22, rvM, rl0, rl1, rl2, rl3, rl4, rl5, rl6, rl7, rl8, I_1, Ia2, Ia3, Ia4, Ia5, Ia6, Ia7, Ia8, Ia9, Ia10, Ia11, Ia12, Il9, Il16, Il22, Il76, Im9, rvM, hT.1, hlt, m154, ro8, rt8, c1, v1, v2, c2, I_1]
        · by_cases c3 : t.2.2 5 - o.2.2 5 = 0
          · have e5 : o.2.2 5 = t.2.2 5 := by
              have := (pz _).mp c3
              refine Int32.toInt_inj.mp ?_
              show Z (o.2.2 5) = Z (t.2.2 5)
              omega
            have n00 : ¬ (0 : Int32) < 0 := by decide
            by_cases c4 : D'.length < D.length
            · have q : rkB o.2 t.2 = true := by
                unfold rkB
                rw [if_pos e1, if_pos e5]
                exact decide_eq_true (ix.mp c4)
              have l4 : I D'.length < I D.length := (I_lt (by omega) (by omega)).mpr c4
              refine ⟨.int 0, ?_⟩
              rw [if_pos q]
              simp only [x215_0, x215_1, x215_2, x215_5, x215_6, x215_7, x215_8, x215_9, x215_12, x215_13, x215_14, x215_17, x215_18, x215_19, x215_20, x215_28, x215_29, x215_30, x215_33, x215_34, x215_37, x215_39, x215_42, x215_44, x215_45, x215_46, x215_47, x215_50, x215_51, x215_54, x215_56, x215_57, x215_58, x215_59, x215_61, x215_63, x215_66, x215_67, x215_68, x215_71, x215_72, x215_74, x215_77, x215_78, x215_83, x215_85, x215_86, x215_88, x215_91, x215_93, x215_96, x215_98, x215_99, x215_102, x215_103, x215_107, x215_108, x215_109, x215_112, x215_106, x215_81, x215_115, x215_116, x215_117, x215_120, x215_121, x215_124, x215_125, x215_128, x215_129, x215_130, x215_133, x215_136, x215_137, x215_138, x215_141, gk_some, pk_some, qk_some, bnd_v, bnd_n, kl_int, kl_ref, kl_null, kl_un, Nat.reduceAdd, if_true, if_false, gm0, gm1, gm2, gm3, gm4, gm5, gm6, gm7, gm8, gm9, gm10, gm11, gm12, gm13, gm14, gm15, gm16, gm17, gm18, gm19, gm20, gm21, gm22, rvM, rl0, rl1, rl2, rl3, rl4, rl5, rl6, rl7, rl8, I_1, Ia2, Ia3, Ia4, Ia5, Ia6, Ia7, Ia8, Ia9, Ia10, Ia11, Ia12, Il9, Il16, Il22, Il76, Im9, rvM, hT.1, hlt, m154, ro8, rt8, c1, v1, v2, c3, n00, l4, I_1]
            · have q : ¬ rkB o.2 t.2 = true := by
                unfold rkB
                rw [if_pos e1, if_pos e5]
                exact fun z => c4 (ix.mpr (of_decide_eq_true z))
              have l4 : ¬ I D'.length < I D.length := fun z => c4 ((I_lt (by omega) (by omega)).mp z)
              refine ⟨.int 0, ?_⟩
              rw [if_neg q]
              simp only [x215_0, x215_1, x215_2, x215_5, x215_6, x215_7, x215_8, x215_9, x215_12, x215_13, x215_14, x215_17, x215_18, x215_19, x215_20, x215_28, x215_29, x215_30, x215_33, x215_34, x215_37, x215_39, x215_42, x215_44, x215_45, x215_46, x215_47, x215_50, x215_51, x215_54, x215_56, x215_57, x215_58, x215_59, x215_61, x215_63, x215_66, x215_67, x215_68, x215_71, x215_72, x215_74, x215_77, x215_78, x215_83, x215_85, x215_86, x215_88, x215_91, x215_93, x215_96, x215_98, x215_99, x215_102, x215_103, x215_107, x215_108, x215_109, x215_112, x215_106, x215_81, x215_115, x215_116, x215_117, x215_120, x215_121, x215_124, x215_125, x215_128, x215_129, x215_130, x215_133, x215_136, x215_137, x215_138, x215_141, gk_some, pk_some, qk_some, bnd_v, bnd_n, kl_int, kl_ref, kl_null, kl_un, Nat.reduceAdd, if_true, if_false, gm0, gm1, gm2, gm3, gm4, gm5, gm6, gm7, gm8, gm9, gm10, gm11, gm12, gm13, gm14, gm15, gm16, gm17, gm18, gm19, gm20, gm21, gm22, rvM, rl0, rl1, rl2, rl3, rl4, rl5, rl6, rl7, rl8, I_1, Ia2, Ia3, Ia4, Ia5, Ia6, Ia7, Ia8, Ia9, Ia10, Ia11, Ia12, Il9, Il16, Il22, Il76, Im9, rvM, hT.1, hlt, m154, ro8, rt8, c1, v1, v2, c3, n00, l4, I_1, z0]
          · have q : ¬ rkB o.2 t.2 = true := by
              have n5 : ¬ o.2.2 5 = t.2.2 5 := fun z => c3 ((pz _).mpr (by rw [zs2, z]; omega))
              unfold rkB
              rw [if_pos e1, if_neg n5]
              intro z
              have z2 := of_decide_eq_true z
              rw [Z_lt] at z2
              rw [Z_lt, zs2, Z_0] at c2
              omega
            refine ⟨.int (t.2.2 5 - o.2.2 5), ?_⟩
            rw [if_neg q]
            simp only [x215_0, x215_1, x215_2, x215_5, x215_6, x215_7, x215_8, x215_9, x215_12, x215_13, x215_14, x215_17, x215_18, x215_19, x215_20, x215_28, x215_29, x215_30, x215_33, x215_34, x215_37, x215_39, x215_42, x215_44, x215_45, x215_46, x215_47, x215_50, x215_51, x215_54, x215_56, x215_57, x215_58, x215_59, x215_61, x215_63, x215_66, x215_67, x215_68, x215_71, x215_72, x215_74, x215_77, x215_78, x215_83, x215_85, x215_86, x215_88, x215_91, x215_93, x215_96, x215_98, x215_99, x215_102, x215_103, x215_107, x215_108, x215_109, x215_112, x215_106, x215_81, x215_115, x215_116, x215_117, x215_120, x215_121, x215_124, x215_125, x215_128, x215_129, x215_130, x215_133, x215_136, x215_137, x215_138, x215_141, gk_some, pk_some, qk_some, bnd_v, bnd_n, kl_int, kl_ref, kl_null, kl_un, Nat.reduceAdd, if_true, if_false, gm0, gm1, gm2, gm3, gm4, gm5, gm6, gm7, gm8, gm9, gm10, gm11, gm12, gm13, gm14, gm15, gm16, gm17, gm18, gm19, gm20, gm21, gm22, rvM, rl0, rl1, rl2, rl3, rl4, rl5, rl6, rl7, rl8, I_1, Ia2, Ia3, Ia4, Ia5, Ia6, Ia7, Ia8, Ia9, Ia10, Ia11, Ia12, Il9, Il16, Il22, Il76, Im9, rvM, hT.1, hlt, m154, ro8, rt8, c1, v1, v2, c2, c3, I_1, z0]
      · have n10 : ¬ o.2.2 10 = t.2.2 10 := fun z => c1 ((pz _).mpr (by rw [zs1, z]; omega))
        by_cases c2 : 0 < o.2.2 10 - t.2.2 10
        · have q : rkB o.2 t.2 = true := by
            have c3 := c2
            rw [Z_lt, zs1, Z_0] at c3
            unfold rkB
            rw [if_neg n10]
            exact decide_eq_true (Z_lt.mpr (by omega))
          refine ⟨.int (o.2.2 10 - t.2.2 10), ?_⟩
          rw [if_pos q]
          simp only [x215_0, x215_1, x215_2, x215_5, x215_6, x215_7, x215_8, x215_9, x215_12, x215_13, x215_14, x215_17, x215_18, x215_19, x215_20, x215_28, x215_29, x215_30, x215_33, x215_34, x215_37, x215_39, x215_42, x215_44, x215_45, x215_46, x215_47, x215_50, x215_51, x215_54, x215_56, x215_57, x215_58, x215_59, x215_61, x215_63, x215_66, x215_67, x215_68, x215_71, x215_72, x215_74, x215_77, x215_78, x215_83, x215_85, x215_86, x215_88, x215_91, x215_93, x215_96, x215_98, x215_99, x215_102, x215_103, x215_107, x215_108, x215_109, x215_112, x215_106, x215_81, x215_115, x215_116, x215_117, x215_120, x215_121, x215_124, x215_125, x215_128, x215_129, x215_130, x215_133, x215_136, x215_137, x215_138, x215_141, gk_some, pk_some, qk_some, bnd_v, bnd_n, kl_int, kl_ref, kl_null, kl_un, Nat.reduceAdd, if_true, if_false, gm0, gm1, gm2, gm3, gm4, gm5, gm6, gm7, gm8, gm9, gm10, gm11, gm12, gm13, gm14, gm15, gm16, gm17, gm18, gm19, gm20, gm21, gm22, rvM, rl0, rl1, rl2, rl3, rl4, rl5, rl6, rl7, rl8, I_1, Ia2, Ia3, Ia4, Ia5, Ia6, Ia7, Ia8, Ia9, Ia10, Ia11, Ia12, Il9, Il16, Il22, Il76, Im9, rvM, hT.1, hlt, m154, ro8, rt8, c1, c2, I_1]
        · have q : ¬ rkB o.2 t.2 = true := by
            unfold rkB
            rw [if_neg n10]
            intro z
            have z2 := of_decide_eq_true z
            rw [Z_lt] at z2
            rw [Z_lt, zs1, Z_0] at c2
            omega
          refine ⟨.int (o.2.2 10 - t.2.2 10), ?_⟩
          rw [if_neg q]
          simp only [x215_0, x215_1, x215_2, x215_5, x215_6, x215_7, x215_8, x215_9, x215_12, x215_13, x215_14, x215_17, x215_18, x215_19, x215_20, x215_28, x215_29, x215_30, x215_33, x215_34, x215_37, x215_39, x215_42, x215_44, x215_45, x215_46, x215_47, x215_50, x215_51, x215_54, x215_56, x215_57, x215_58, x215_59, x215_61, x215_63, x215_66, x215_67, x215_68, x215_71, x215_72, x215_74, x215_77, x215_78, x215_83, x215_85, x215_86, x215_88, x215_91, x215_93, x215_96, x215_98, x215_99, x215_102, x215_103, x215_107, x215_108, x215_109, x215_112, x215_106, x215_81, x215_115, x215_116, x215_117, x215_120, x215_121, x215_124, x215_125, x215_128, x215_129, x215_130, x215_133, x215_136, x215_137, x215_138, x215_141, gk_some, pk_some, qk_some, bnd_v, bnd_n, kl_int, kl_ref, kl_null, kl_un, Nat.reduceAdd, if_true, if_false, gm0, gm1, gm2, gm3, gm4, gm5, gm6, gm7, gm8, gm9, gm10, gm11, gm12, gm13, gm14, gm15, gm16, gm17, gm18, gm19, gm20, gm21, gm22, rvM, rl0, rl1, rl2, rl3, rl4, rl5, rl6, rl7, rl8, I_1, Ia2, Ia3, Ia4, Ia5, Ia6, Ia7, Ia8, Ia9, Ia10, Ia11, Ia12, Il9, Il16, Il22, Il76, Im9, rvM, hT.1, hlt, m154, ro8, rt8, c1, c2, I_1, z0]
    obtain ⟨z1, e1⟩ := st
    have len1 : (D' ++ [o]).length = D'.length + 1 := by simp
    have ih' := ih (D' ++ [o]) (if rkB o.2 t.2 = true then m + 1 else m) z1 (sub_ hP')
    rw [len1] at ih'
    have ec : (if rkB o.2 t.2 = true then m + 1 else m) + R'.countP (fun o => rkB o.2 t.2) = m + (o :: R').countP (fun o => rkB o.2 t.2) := by
      rw [List.countP_cons]
      split <;> omega
    rw [ec] at ih'
    rw [e1]
    refine Or.inr ?_
    obtain i | ⟨z', i⟩ := ih'
    · exact ⟨_, i⟩
    · exact ⟨z', i⟩
theorem l215 (hp : 32 ≤ p) (e9 : g 9 = 0) (hM : MRL (A 1) L) (hL : FL X N L) (hX : X ≤ 31100) (v : Int32) : ∀ (R D : List SL) (z3 z4 z5 : Value), prs L.2.2.2.2 = D ++ R → rn 215 7 [.ref p, .int v, .int (I D.length), z3, z4, z5] [] (mput h p g A, r) = (match R.find? (fun t => decide (rnkN L.2.2.2.2 t.2 = v)) with
    | none => some (.inl (some (.int (-1))), (mput h p (up g 9 1) A, r))
    | some t => some (.inl (some (.int (t.2.2 1))), (mput h p g A, r))) := by
  have hT := hM.2.1
  intro R
  induction R with
  | nil =>
    intro D z3 z4 z5 hP
    have z := m150 h g r hp A 1
    rw [x215_7]
    simp only [x215_8, x215_9, x215_12, x215_13, x215_14, x215_136, x215_137, x215_138, x215_141, gk_some, pk_some, qk_some, bnd_v, bnd_n, kl_int, kl_ref, kl_null, kl_un, Nat.reduceAdd, if_true, if_false, gm0, gm1, gm2, gm3, gm4, gm5, gm6, gm7, gm8, gm9, gm10, gm11, gm12, gm13, gm14, gm15, gm16, gm17, gm18, gm19, gm20, gm21, gm22, rvM, rl0, rl1, rl2, rl3, rl4, rl5, rl6, rl7, rl8, rvM, hT.1, nlt_end hP, z, List.find?_nil]
  | cons t R ih =>
    intro D z3 z4 z5 hP
    have li := fun z => l215i h g A r (p := p) hM hL hX hP v (prs L.2.2.2.2) [] 0 z rfl
    have hcn := rnk_cnt L.2.2.2.2 t.2
    have li' : ∀ z, ∃ z', rn 215 22 [.ref p, .int v, .int (I D.length), .int (I 0), .int (I ([] : List SL).length), z] [] (mput h p g A, r) = rn 215 22 [.ref p, .int v, .int (I D.length), .int (rnkN L.2.2.2.2 t.2), .int (I (prs L.2.2.2.2).length), z'] [] (mput h p g A, r) := by
      intro z
      rw [hcn]
      have := li z
      rw [Nat.zero_add] at this
      obtain i | ⟨z', i⟩ := this
      · exact ⟨_, i⟩
      · exact ⟨z', i⟩
    obtain ⟨z', e1⟩ := li' z5
    rw [List.length_nil, show I 0 = 0 from rfl] at e1
    have nl : ¬ I (prs L.2.2.2.2).length < I (prs L.2.2.2.2).length := fun q => by rw [Z_lt] at q; omega
    have rd := mrd0 h g A r (p := p) hT hP
    rw [x215_7, List.find?_cons]
    by_cases c : rnkN L.2.2.2.2 t.2 = v
    · rw [decide_eq_true c]
      simp only [x215_8, x215_9, x215_12, x215_13, x215_14, x215_17, x215_18, x215_19, x215_20, gk_some, pk_some, qk_some, bnd_v, bnd_n, kl_int, kl_ref, kl_null, kl_un, Nat.reduceAdd, if_true, if_false, gm0, gm1, gm2, gm3, gm4, gm5, gm6, gm7, gm8, gm9, gm10, gm11, gm12, gm13, gm14, gm15, gm16, gm17, gm18, gm19, gm20, gm21, gm22, rvM, rl0, rl1, rl2, rl3, rl4, rl5, rl6, rl7, rl8, hT.1, mlt A hT hP, e1]
      rw [x215_22]
      simp only [x215_24, x215_25, x215_28, x215_29, x215_30, x215_115, x215_116, x215_117, x215_120, x215_121, x215_124, x215_125, x215_128, x215_129, gk_some, pk_some, qk_some, bnd_v, bnd_n, kl_int, kl_ref, kl_null, kl_un, Nat.reduceAdd, if_true, if_false, gm0, gm1, gm2, gm3, gm4, gm5, gm6, gm7, gm8, gm9, gm10, gm11, gm12, gm13, gm14, gm15, gm16, gm17, gm18, gm19, gm20, gm21, gm22, rvM, rl0, rl1, rl2, rl3, rl4, rl5, rl6, rl7, rl8, hT.1, nl, c, m154, rd]
    · rw [decide_eq_false c]
      have ih' := ih (D ++ [t]) (.int (rnkN L.2.2.2.2 t.2)) (.int (I (prs L.2.2.2.2).length)) z' (sub_ hP)
      rw [← len_] at ih'
      simp only [x215_8, x215_9, x215_12, x215_13, x215_14, x215_17, x215_18, x215_19, x215_20, gk_some, pk_some, qk_some, bnd_v, bnd_n, kl_int, kl_ref, kl_null, kl_un, Nat.reduceAdd, if_true, if_false, gm0, gm1, gm2, gm3, gm4, gm5, gm6, gm7, gm8, gm9, gm10, gm11, gm12, gm13, gm14, gm15, gm16, gm17, gm18, gm19, gm20, gm21, gm22, rvM, rl0, rl1, rl2, rl3, rl4, rl5, rl6, rl7, rl8, hT.1, mlt A hT hP, e1]
      rw [x215_22]
      simp only [x215_24, x215_25, x215_28, x215_29, x215_30, x215_115, x215_116, x215_117, x215_130, x215_133, gk_some, pk_some, qk_some, bnd_v, bnd_n, kl_int, kl_ref, kl_null, kl_un, Nat.reduceAdd, if_true, if_false, gm0, gm1, gm2, gm3, gm4, gm5, gm6, gm7, gm8, gm9, gm10, gm11, gm12, gm13, gm14, gm15, gm16, gm17, gm18, gm19, gm20, gm21, gm22, rvM, rl0, rl1, rl2, rl3, rl4, rl5, rl6, rl7, rl8, hT.1, nl, c, ih']
theorem u215 (hp : 32 ≤ p) (hM : MRL (A 1) L) (hL : FL X N L) (hX : X ≤ 31100) (v : Int32) : rcal 215 [.ref p, .int v] (mput h p g A, r) = (match L.2.2.2.2.find? (rkF L.2.2.2.2 v) with
    | none => some (.inl (some (.int (-1))), (mput h p (up g 9 1) A, r))
    | some t => some (.inl (some (.int (t.2.2 1))), (mput h p (up g 9 0) A, r))) := by
  have w := pm9 h g A r hp 0
  have l := l215 h (up g 9 0) A r hp (up_eq _ _ _) hM hL hX v (prs L.2.2.2.2) [] un un un rfl
  rw [List.length_nil, show I 0 = 0 from rfl, up_up] at l
  have ef : (prs L.2.2.2.2).find? (fun t => decide (rnkN L.2.2.2.2 t.2 = v)) = L.2.2.2.2.find? (rkF L.2.2.2.2 v) := by
    unfold prs
    rw [List.find?_filter]
    congr 1
    funext s
    unfold rkF
    by_cases e : s.2.1 = 1 <;> simp [e]
  rw [ef] at l
  simp only [c215, x215_0, x215_1, x215_2, x215_5, x215_6, gk_some, pk_some, qk_some, bnd_v, bnd_n, kl_int, kl_ref, kl_null, kl_un, Nat.reduceAdd, if_true, if_false, w, l]
end RANK
section THINK
variable (h : PH) {p : Nat} (g : Nat → Int32) (r : Nat × Nat × Nat)
theorem l211 (hp : 32 ≤ p) : ∀ (d i : Nat) (A : Nat → Nat → Int32), i + d = 76 → rn 211 2 [.ref p, .int (I i)] [] (mput h p g A, r) = rn 211 26 [.ref p, .int 76] [] (mput h p g (ua A 3 (cpA i 76 (A 1) (A 3))), r) := by
  intro d
  induction d with
  | zero =>
    intro i A hi
    have e : i = 76 := by omega
    subst e
    have a : ¬ I 76 < 76 := by decide
    rw [x211_2, x211_3, x211_5, if_neg a, cpA_0, ua_self]
    rfl
  | succ d ih =>
    intro i A hi
    have a : I i < 76 := (I_lt (b := 76) (by omega) (by decide)).mpr (by omega)
    have b := rn1 h g A r (p := p) (n := i) (by omega)
    have w := wn3 h g A r hp (n := i) (by omega) (A 1 i)
    have i2 := ih (i + 1) (ua A 3 (up (A 3) i (A 1 i))) (by omega)
    rw [ua_ne A _ (show 1 ≠ 3 by decide), ua_eq, ua_ua, cpA_s (by omega)] at i2
    rw [x211_2, x211_3, x211_5, if_pos a]
    simp only [x211_0, x211_1, x211_8, x211_9, x211_12, x211_13, x211_14, x211_17, x211_18, x211_19, x211_20, x211_23, gk_some, pk_some, qk_some, bnd_v, bnd_n, kl_int, kl_ref, kl_null, kl_un, Nat.reduceAdd, if_true, if_false, gm0, gm1, gm2, gm3, gm4, gm5, gm6, gm7, gm8, gm9, gm10, gm11, gm12, gm13, gm14, gm15, gm16, gm17, gm18, gm19, gm20, gm21, gm22, rvM, b, w, I_1, i2]
theorem m211 (hp : 32 ≤ p) (A : Nat → Nat → Int32) : rcal 211 [.ref p] (mput h p g A, r) = some (.inl none, (mput h p g (ua A 3 (cpA 0 76 (A 1) (A 3))), r)) := by
  have l := l211 h g r hp 76 0 A rfl
  rw [show I 0 = 0 from rfl] at l
  simp only [c211, x211_0, x211_1, x211_26, gk_some, pk_some, qk_some, bnd_v, bnd_n, kl_int, kl_ref, kl_null, kl_un, Nat.reduceAdd, if_true, if_false, l]
theorem l212 (hp : 32 ≤ p) : ∀ (d i : Nat) (A : Nat → Nat → Int32), i + d = 76 → rn 212 2 [.ref p, .int (I i)] [] (mput h p g A, r) = rn 212 26 [.ref p, .int 76] [] (mput h p g (ua A 1 (cpA i 76 (A 3) (A 1))), r) := by
  intro d
  induction d with
  | zero =>
    intro i A hi
    have e : i = 76 := by omega
    subst e
    have a : ¬ I 76 < 76 := by decide
    rw [x212_2, x212_3, x212_5, if_neg a, cpA_0, ua_self]
    rfl
  | succ d ih =>
    intro i A hi
    have a : I i < 76 := (I_lt (b := 76) (by omega) (by decide)).mpr (by omega)
    have b := rn3 h g A r (p := p) (n := i) (by omega)
    have w := wn1 h g A r hp (n := i) (by omega) (A 3 i)
    have i2 := ih (i + 1) (ua A 1 (up (A 1) i (A 3 i))) (by omega)
    rw [ua_ne A _ (show 3 ≠ 1 by decide), ua_eq, ua_ua, cpA_s (by omega)] at i2
    rw [x212_2, x212_3, x212_5, if_pos a]
    simp only [x212_0, x212_1, x212_8, x212_9, x212_12, x212_13, x212_14, x212_17, x212_18, x212_19, x212_20, x212_23, gk_some, pk_some, qk_some, bnd_v, bnd_n, kl_int, kl_ref, kl_null, kl_un, Nat.reduceAdd, if_true, if_false, gm0, gm1, gm2, gm3, gm4, gm5, gm6, gm7, gm8, gm9, gm10, gm11, gm12, gm13, gm14, gm15, gm16, gm17, gm18, gm19, gm20, gm21, gm22, rvM, b, w, I_1, i2]
theorem m212 (hp : 32 ≤ p) (A : Nat → Nat → Int32) : rcal 212 [.ref p] (mput h p g A, r) = some (.inl none, (mput h p g (ua A 1 (cpA 0 76 (A 3) (A 1))), r)) := by
  have l := l212 h g r hp 76 0 A rfl
  rw [show I 0 = 0 from rfl] at l
  simp only [c212, x212_0, x212_1, x212_26, gk_some, pk_some, qk_some, bnd_v, bnd_n, kl_int, kl_ref, kl_null, kl_un, Nat.reduceAdd, if_true, if_false, l]
/-- a forecast is over: the numbers are back -/
def bkR (g2 g : Nat → Int32) (A2 B : Nat → Nat → Int32) : Prop := (∀ k, k ≠ 9 → k ≠ 13 → g2 k = g k) ∧ (∀ x, x < 76 → A2 1 x = B 3 x) ∧ ∀ k, k ≠ 1 → k ≠ 7 → A2 k = B k
theorem t213 (hp : 32 ≤ p) (B : Nat → Nat → Int32) {a c : Nat → Int32} {m : Nat} {q : LQ} {tk rt : Nat → Int32} (hM : MR a q.1 tk rt (prs q.2)) {v : Int32} (e9 : g 9 = 0) (w2 : Int32) (hf : q.2.find? (fndP v) = none) : ∃ g2 A2, rn 213 52 [.ref p, .int v, .int w2, un, un] [] (mm h p g B a c m, r) = some (.inl (some (.int (q.1 7))), (mput h p g2 A2, r)) ∧ g2 9 = 0 ∧ bkR g2 g A2 B := by
  have t := n157 h g B r (p := p) a c m hM.2.1 v
  rw [fidx_none 0 (by rw [fnd_num]; exact hf)] at t
  have l3 := mm_l3 h g B r (p := p) a c m
  rw [hM.1.2.2.1] at l3
  have b := m212 h (p := p) (up g 13 (I m)) r hp (ua (ua B 1 a) 7 c)
  change rcal 212 _ (mm h p g B a c m, r) = _ at b
  refine ⟨up g 13 (I m), ua (ua (ua B 1 a) 7 c) 1 (cpA 0 76 (ua (ua B 1 a) 7 c 3) (ua (ua B 1 a) 7 c 1)), ?_, ?_, fun k k9 k13 => up_ne _ _ k13, fun x hx => ?_, fun k k1 k7 => ?_⟩
  · have rv := mm_rv h g B r (p := p) a c m
    have m0 := mm_0 h g B r (p := p) a c m
    have o1 : ¬ (1 : Int32) = 0 := by decide
    simp only [x213_52, x213_53, x213_54, x213_57, x213_58, x213_61, x213_62, x213_66, x213_67, x213_68, x213_71, x213_72, x213_73, x213_75, x213_76, x213_79, x213_80, x213_83, x213_85, x213_93, gk_some, pk_some, qk_some, bnd_v, bnd_n, kl_int, kl_ref, kl_null, kl_un, Nat.reduceAdd, if_true, if_false, rv, m0, t, l3, b, o1]
  · rw [up_ne _ _ (by decide)]; exact e9
  · rw [ua_eq, cpA_lt _ _ hx, ua_ne _ _ (by decide), ua_ne _ _ (by decide)]
  · rw [ua_ne _ _ k1, ua_ne _ _ k7, ua_ne _ _ k1]
theorem t213n (hp : 32 ≤ p) (B : Nat → Nat → Int32) {a c : Nat → Int32} {m : Nat} {q : LQ} {tk rt : Nat → Int32} (hM : MR a q.1 tk rt (prs q.2)) {v : Int32} (w2 : Int32) {s : SL} (hf : q.2.find? (fndP v) = some s) : ∃ g2 A2, rn 213 52 [.ref p, .int v, .int w2, un, un] [] (mm h p g B a c m, r) = some (.inl (some (.int (-1))), (mput h p g2 A2, r)) ∧ g2 9 = 1 ∧ bkR g2 g A2 B := by
  have t := n157 h g B r (p := p) a c m hM.2.1 v
  obtain ⟨D, R, hP, hfi⟩ := fidx_some (q := numP v) (P := prs q.2) 0 (by rw [fnd_num]; exact hf)
  rw [Nat.zero_add] at hfi
  have hD : D.length < 6 := by have := hM.2.1.2.1; rw [hP] at this; simp at this; omega
  rw [hfi] at t
  have l3 := mm_l3 h g B r (p := p) a c m
  have b := m212 h (p := p) (up g 13 (I m)) r hp (ua (ua B 1 a) 7 c)
  change rcal 212 _ (mm h p g B a c m, r) = _ at b
  have z := m150 h (up g 13 (I m)) r hp (ua (ua (ua B 1 a) 7 c) 1 (cpA 0 76 (ua (ua B 1 a) 7 c 3) (ua (ua B 1 a) 7 c 1))) 1
  refine ⟨up (up g 13 (I m)) 9 1, ua (ua (ua B 1 a) 7 c) 1 (cpA 0 76 (ua (ua B 1 a) 7 c 3) (ua (ua B 1 a) 7 c 1)), ?_, up_eq _ _ _, fun k k9 k13 => ?_, fun x hx => ?_, fun k k1 k7 => ?_⟩
  · have rv := mm_rv h g B r (p := p) a c m
    have m0 := mm_0 h g B r (p := p) a c m
    simp only [x213_52, x213_53, x213_54, x213_57, x213_58, x213_65, x213_66, x213_67, x213_68, x213_71, x213_72, x213_73, x213_75, x213_76, x213_79, x213_80, x213_88, x213_89, x213_90, x213_93, gk_some, pk_some, qk_some, bnd_v, bnd_n, kl_int, kl_ref, kl_null, kl_un, Nat.reduceAdd, if_true, if_false, rv, rvM, m0, t, idx_n9 hD, l3, b, z]
  · rw [up_ne _ _ k9, up_ne _ _ k13]
  · rw [ua_eq, cpA_lt _ _ hx, ua_ne _ _ (by decide), ua_ne _ _ (by decide)]
  · rw [ua_ne _ _ k1, ua_ne _ _ k7, ua_ne _ _ k1]
theorem l213 (hp : 32 ≤ p) (B : Nat → Nat → Int32) {tk rt : Nat → Int32} {n0 : Nat} (e9 : g 9 = 0) (v : Int32) : ∀ (n k : Nat) (q : LQ) (a c : Nat → Int32) (m : Nat) (X : Int), k + n = 300 → X + n ≤ 31100 → GI n0 X ((n0 - 1 : Nat) : Int) tk rt q → MR a q.1 tk rt (prs q.2) → q.2.find? (fndP v) ≠ none → ∃ g2 A2, rn 213 26 [.ref p, .int v, .int (I k), un, un] [] (mm h p g B a c m, r) = some (.inl (some (.int (puA tk rt v n q).1)), (mput h p g2 A2, r)) ∧ g2 9 = (if (puA tk rt v n q).1 = -1 then 1 else 0) ∧ bkR g2 g A2 B := by
  intro n
  induction n with
  | zero =>
    intro k q a c m X hk hX G hM hf
    have ek : k = 300 := by omega
    subst ek
    cases hf2 : q.2.find? (fndP v) with
    | none => exact absurd hf2 hf
    | some s =>
      obtain ⟨g2, A2, e1, e2, e3⟩ := t213n h g r hp B hM (c := c) (m := m) (I 300) hf2
      refine ⟨g2, A2, ?_, ?_, e3⟩
      · have nl : ¬ I 300 < 300 := by decide
        rw [x213_26]
        simp only [x213_27, x213_30, gk_some, pk_some, qk_some, bnd_v, bnd_n, kl_int, kl_ref, kl_null, kl_un, Nat.reduceAdd, if_true, if_false, nl, e1, puA]
      · rw [e2]; rfl
  | succ n ih =>
    intro k q a c m X hk hX G hM hf
    have hl : I k < 300 := (I_lt (b := 300) (by omega) (by decide)).mpr (by omega)
    obtain ⟨G', -, mk⟩ := minute_GI (by omega) G
    obtain ⟨a1, c1, m1, e1, M1⟩ := n186 h g B r tk rt hp q a c m hM mk
    have rv := mm_rv h g B r (p := p) a c m
    have t := n157 h g B r (p := p) a c m hM.2.1 v
    cases hf2 : q.2.find? (fndP v) with
    | none => exact absurd hf2 hf
    | some s =>
      obtain ⟨D, R, hP, hfi⟩ := fidx_some (q := numP v) (P := prs q.2) 0 (by rw [fnd_num]; exact hf2)
      rw [Nat.zero_add] at hfi
      have hD : D.length < 6 := by have := hM.2.1.2.1; rw [hP] at this; simp at this; omega
      rw [hfi] at t
      have st : rn 213 26 [.ref p, .int v, .int (I k), un, un] [] (mm h p g B a c m, r) = rn 213 26 [.ref p, .int v, .int (I (k + 1)), un, un] [] (mm h p g B a1 c1 m1, r) := by
        rw [x213_26, x213_27, x213_30, if_pos hl]
        simp only [x213_33, x213_34, x213_35, x213_38, x213_39, x213_42, x213_43, x213_46, x213_49, gk_some, pk_some, qk_some, bnd_v, bnd_n, kl_int, kl_ref, kl_null, kl_un, Nat.reduceAdd, if_true, if_false, rv, t, idx_n9 hD, e1, I_1]
      rw [st]
      unfold puA
      by_cases c2 : (minQ tk rt q).2.find? (fndP v) = none
      · rw [if_pos c2]
        obtain ⟨g2, A2, e3, e4, e5⟩ := t213 h g r hp B M1 (c := c1) (m := m1) e9 (I (k + 1)) c2
        refine ⟨g2, A2, ?_, ?_, e5⟩
        · have t1 := n157 h g B r (p := p) a1 c1 m1 M1.2.1 v
          rw [fidx_none 0 (by rw [fnd_num]; exact c2)] at t1
          have rv1 := mm_rv h g B r (p := p) a1 c1 m1
          rw [x213_26]
          by_cases q3 : I (k + 1) < 300
          · simp only [x213_27, x213_30, x213_33, x213_34, x213_35, x213_38, x213_39, gk_some, pk_some, qk_some, bnd_v, bnd_n, kl_int, kl_ref, kl_null, kl_un, Nat.reduceAdd, if_true, if_false, q3, rv1, t1, e3]
          · simp only [x213_27, x213_30, gk_some, pk_some, qk_some, bnd_v, bnd_n, kl_int, kl_ref, kl_null, kl_un, Nat.reduceAdd, if_true, if_false, q3, e3]
        · have z7 := G'.2.2.2.2.1.1
          rw [e4, if_neg]
          intro y
          change (minQ tk rt q).1 7 = -1 at y
          rw [y] at z7
          exact absurd z7 (by decide)
      · rw [if_neg c2]
        exact ih (k + 1) (minQ tk rt q) a1 c1 m1 (X + 1) (by omega) (by omega) G' M1 c2
theorem nx_nil {pv : Option TR} : ∀ (S : List SL), prs S = [] → S.foldl (nx1 pv) none = none := by
  intro S
  induction S with
  | nil => intro _; rfl
  | cons s S ih =>
    intro hp
    have h1 : s.2.1 = 1 := by
      unfold prs at hp
      rw [List.filter_eq_nil_iff] at hp
      have := hp s List.mem_cons_self
      simpa using this
    have h2 : prs S = [] := by
      unfold prs at hp ⊢
      rw [List.filter_eq_nil_iff] at hp ⊢
      exact fun a ha => hp a (List.mem_cons_of_mem _ ha)
    rw [List.foldl_cons]
    unfold nx1
    rw [if_neg (fun z => z.1 h1)]
    exact ih h2
theorem min_nil {tk rt : Nat → Int32} {n : Nat} {X l : Int} {q : LQ} (G : GI n X l tk rt q) (hq : prs q.2 = []) : prs (minQ tk rt q).2 = [] := by
  have e1 : min1 tk rt q = (up q.1 7 (q.1 7 + 1), q.2) := by
    unfold min1
    exact mvN_id (n := (q.1 0).toNatClampNeg - 1) _ 0 _ (by omega) (fun i _ _ => find_nil hq _)
  have e2 : min2 tk rt q = q.2 := by
    unfold min2
    rw [e1]
    exact br_nil G.1 hq
  have e3 : nxS none q.2 = none := nx_nil q.2 hq
  show prs (goN (min1 tk rt q).1 tk rt 6 (nxS none (min2 tk rt q)) (min2 tk rt q)) = []
  rw [e2, e3]
  exact hq
theorem puS_5 {tk rt : Nat → Int32} {n : Nat} : ∀ (c : Nat) (X : Int) (q : LQ), X + c ≤ 31100 → GI n X ((n - 1 : Nat) : Int) tk rt q → (minN tk rt c q).1 5 = (puS tk rt c q).1 5
  | 0, _, _, _, _ => rfl
  | c + 1, X, q, hX, G => by
    have G' := (minute_GI (by omega) G).1
    unfold minN puS
    by_cases h5 : 0 < q.1 5
    · rw [if_pos h5]
      exact puS_5 c (X + 1) _ (by omega) G'
    · rw [if_neg h5]
      have hl := GI_len G
      have hq : prs q.2 = [] := by
        rw [G.2.2.1] at h5
        cases hp : prs q.2 with
        | nil => rfl
        | cons s P =>
          rw [hp] at h5 hl
          exact absurd ((I_lt (a := 0) (by decide) (by omega)).mpr (by simp)) h5
      have hn : ∀ (c : Nat) (X : Int) (q : LQ), X + c ≤ 31100 → GI n X ((n - 1 : Nat) : Int) tk rt q → prs q.2 = [] → (minN tk rt c q).1 5 = 0 := by
        intro c
        induction c with
        | zero => intro X q _ G hq; show q.1 5 = 0; rw [G.2.2.1, hq]; rfl
        | succ c ih => intro X q hX G hq; exact ih (X + 1) _ (by omega) (minute_GI (by omega) G).1 (min_nil G hq)
      rw [hn c (X + 1) _ (by omega) G' (min_nil G hq), G.2.2.1, hq]
      rfl
theorem l214 (hp : 32 ≤ p) (B : Nat → Nat → Int32) {tk rt : Nat → Int32} {n0 : Nat} : ∀ (n k : Nat) (q : LQ) (a c : Nat → Int32) (m : Nat) (X : Int), k + n = 300 → X + n ≤ 31100 → GI n0 X ((n0 - 1 : Nat) : Int) tk rt q → MR a q.1 tk rt (prs q.2) → ∃ g2 A2, rn 214 11 [.ref p, .int (I k)] [] (mm h p g B a c m, r) = some (.inl (some (.int ((minN tk rt n q).1 5))), (mput h p g2 A2, r)) ∧ g2 9 = g 9 ∧ bkR g2 g A2 B := by
  intro n
  induction n with
  | zero =>
    intro k q a c m X hk hX G hM
    have ek : k = 300 := by omega
    subst ek
    have nl : ¬ I 300 < 300 := by decide
    have rv := mm_rv h g B r (p := p) a c m
    have m0 := mm_0 h g B r (p := p) a c m
    have l1 := mm_l1 h g B r (p := p) a c m
    rw [hM.2.1.1, ← G.2.2.1] at l1
    have b := m212 h (p := p) (up g 13 (I m)) r hp (ua (ua B 1 a) 7 c)
    change rcal 212 _ (mm h p g B a c m, r) = _ at b
    refine ⟨up g 13 (I m), ua (ua (ua B 1 a) 7 c) 1 (cpA 0 76 (ua (ua B 1 a) 7 c 3) (ua (ua B 1 a) 7 c 1)), ?_, up_ne _ _ (by decide), fun k k9 k13 => up_ne _ _ k13, fun x hx => ?_, fun k k1 k7 => ?_⟩
    · rw [x214_11]
      simp only [x214_12, x214_15, x214_28, x214_29, x214_32, x214_33, x214_34, x214_35, x214_36, x214_39, x214_40, gk_some, pk_some, qk_some, bnd_v, bnd_n, kl_int, kl_ref, kl_null, kl_un, Nat.reduceAdd, if_true, if_false, nl, rv, m0, l1, b, minN]
    · rw [ua_eq, cpA_lt _ _ hx, ua_ne _ _ (by decide), ua_ne _ _ (by decide)]
    · rw [ua_ne _ _ k1, ua_ne _ _ k7, ua_ne _ _ k1]
  | succ n ih =>
    intro k q a c m X hk hX G hM
    have hl : I k < 300 := (I_lt (b := 300) (by omega) (by decide)).mpr (by omega)
    obtain ⟨G', -, mk⟩ := minute_GI (by omega) G
    obtain ⟨a1, c1, m1, e1, M1⟩ := n186 h g B r tk rt hp q a c m hM mk
    have rv := mm_rv h g B r (p := p) a c m
    obtain ⟨g2, A2, e2, e3, e4⟩ := ih (k + 1) (minQ tk rt q) a1 c1 m1 (X + 1) (by omega) (by omega) G' M1
    refine ⟨g2, A2, ?_, e3, e4⟩
    rw [x214_11, x214_12, x214_15, if_pos hl]
    simp only [x214_18, x214_19, x214_22, x214_25, gk_some, pk_some, qk_some, bnd_v, bnd_n, kl_int, kl_ref, kl_null, kl_un, Nat.reduceAdd, if_true, if_false, rv, e1, I_1, e2, minN]
end THINK
section FORE3
variable (h : PH) {p : Nat} (g : Nat → Int32) (A : Nat → Nat → Int32) (r : Nat × Nat × Nat) {L L' : LN} {X N : Int}
theorem u213n (hp : 32 ≤ p) (hM : MRL (A 1) L) {v : Int32} (hf : L.2.2.2.2.find? (fndP v) = none) : rcal 213 [.ref p, .int v] (mput h p g A, r) = some (.inl (some (.int (-1))), (mput h p (up g 9 1) A, r)) := by
  have w := pm9 h g A r hp 0
  have b := v157n h A r (p := p) hM hf (up g 9 0)
  have z := m150z h g A r hp 1
  simp only [c213, x213_0, x213_1, x213_2, x213_5, x213_6, x213_7, x213_10, x213_11, x213_14, x213_15, x213_16, x213_19, gk_some, pk_some, qk_some, bnd_v, bnd_n, kl_int, kl_ref, kl_null, kl_un, Nat.reduceAdd, if_true, if_false, rvM, w, b, z]
theorem u213 (hp : 32 ≤ p) (hM : MRL (A 1) L') (hL : FL X N L') (hX : X + 300 ≤ 31100) {v : Int32} {s : SL} (hf : L'.2.2.2.2.find? (fndP v) = some s) : ∃ g2 A2, rcal 213 [.ref p, .int v] (mput h p g A, r) = some (.inl (some (.int (puA L'.2.1 L'.2.2.1 v 300 (L'.1, L'.2.2.2.2)).1)), (mput h p g2 A2, r)) ∧ g2 9 = (if (puA L'.2.1 L'.2.2.1 v 300 (L'.1, L'.2.2.2.2)).1 = -1 then 1 else 0) ∧ bkR g2 g A2 (ua A 3 (cpA 0 76 (A 1) (A 3))) := by
  have w := pm9 h g A r hp 0
  obtain ⟨D, R, hP, hD, b⟩ := v157 h A r (p := p) hM hf (up g 9 0)
  obtain ⟨n, G, -⟩ := id hL
  have t := m211 h (p := p) (up g 9 0) r hp A
  obtain ⟨m13, e13⟩ := I_ex (up g 9 0 13)
  have hid := mm_id h (p := p) (g := up g 9 0) (ua A 3 (cpA 0 76 (A 1) (A 3))) e13
  have a1 : ua A 3 (cpA 0 76 (A 1) (A 3)) 1 = A 1 := ua_ne _ _ (by decide)
  obtain ⟨g2, A2, e1, e2, e3, e4⟩ := l213 h (p := p) (up g 9 0) r hp (ua A 3 (cpA 0 76 (A 1) (A 3))) (up_eq _ _ _) v 300 0 (L'.1, L'.2.2.2.2) (ua A 3 (cpA 0 76 (A 1) (A 3)) 1) (ua A 3 (cpA 0 76 (A 1) (A 3)) 7) m13 X rfl (by omega) G (by rw [a1]; exact hM) (by rw [hf]; exact Option.some_ne_none s)
  rw [hid, show I 0 = 0 from rfl] at e1
  refine ⟨g2, A2, ?_, e2, fun k k9 k13 => (e3 k k9 k13).trans (up_ne _ _ k9), e4⟩
  simp only [c213, x213_0, x213_1, x213_2, x213_5, x213_6, x213_7, x213_10, x213_11, x213_20, x213_21, x213_24, x213_25, gk_some, pk_some, qk_some, bnd_v, bnd_n, kl_int, kl_ref, kl_null, kl_un, Nat.reduceAdd, if_true, if_false, rvM, w, b, idx_n9 hD, t, e1]
theorem u214 (hp : 32 ≤ p) (hM : MRL (A 1) L') (hL : FL X N L') (hX : X + 300 ≤ 31100) : ∃ g2 A2, rcal 214 [.ref p] (mput h p g A, r) = some (.inl (some (.int ((puS L'.2.1 L'.2.2.1 300 (L'.1, L'.2.2.2.2)).1 5))), (mput h p g2 A2, r)) ∧ g2 9 = 0 ∧ bkR g2 g A2 (ua A 3 (cpA 0 76 (A 1) (A 3))) := by
  have w := pm9 h g A r hp 0
  obtain ⟨n, G, -⟩ := id hL
  have t := m211 h (p := p) (up g 9 0) r hp A
  obtain ⟨m13, e13⟩ := I_ex (up g 9 0 13)
  have hid := mm_id h (p := p) (g := up g 9 0) (ua A 3 (cpA 0 76 (A 1) (A 3))) e13
  have a1 : ua A 3 (cpA 0 76 (A 1) (A 3)) 1 = A 1 := ua_ne _ _ (by decide)
  obtain ⟨g2, A2, e1, e2, e3, e4⟩ := l214 h (p := p) (up g 9 0) r hp (ua A 3 (cpA 0 76 (A 1) (A 3))) 300 0 (L'.1, L'.2.2.2.2) (ua A 3 (cpA 0 76 (A 1) (A 3)) 1) (ua A 3 (cpA 0 76 (A 1) (A 3)) 7) m13 X rfl (by omega) G (by rw [a1]; exact hM)
  rw [hid, show I 0 = 0 from rfl, puS_5 300 X _ (by omega) G] at e1
  rw [up_eq] at e2
  refine ⟨g2, A2, ?_, e2, fun k k9 k13 => (e3 k k9 k13).trans (up_ne _ _ k9), e4⟩
  simp only [c214, x214_0, x214_1, x214_2, x214_5, x214_6, x214_9, x214_10, gk_some, pk_some, qk_some, bnd_v, bnd_n, kl_int, kl_ref, kl_null, kl_un, Nat.reduceAdd, if_true, if_false, rvM, w, t, e1]
end FORE3
