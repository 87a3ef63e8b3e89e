/-! a new train in the reference -/
def NF (S : List SL) : Prop := ∃ Q, S = prs S ++ Q ∧ ∀ s, s ∈ Q → s.2.1 = 1
theorem prs_app (A B : List SL) : prs (A ++ B) = prs A ++ prs B := by unfold prs; exact List.filter_append ..
theorem prs_abs {Q : List SL} (h : ∀ s, s ∈ Q → s.2.1 = 1) : prs Q = [] := by
  unfold prs
  rw [List.filter_eq_nil_iff]
  intro s hs; simp [h s hs]
theorem prs_idem (S : List SL) : prs (prs S) = prs S := by
  unfold prs; rw [List.filter_filter]; simp
theorem nf_new {S : List SL} (w : WS S) (nf : NF S) (h6 : (prs S).length < 6) {t : TR} (ht : t.1 ≠ 1) : prs (upS S (homeAt S (prs S).length) t) = prs S ++ [(homeAt S (prs S).length, t)] := by
  obtain ⟨Q, hS, hQ⟩ := nf
  cases Q with
  | nil =>
    exfalso
    rw [List.append_nil] at hS
    have := w.1; rw [hS] at this; omega
  | cons s Q =>
    have hho : homeAt S (prs S).length = s.1 := by
      unfold homeAt
      rw [hS, prs_app, prs_idem, prs_abs hQ]; simp
    have nd := w.2.1
    rw [hho]
    have e : upS S s.1 t = prs S ++ (s.1, t) :: Q := by
      have nd2 : NDH (prs S ++ s :: Q) := hS ▸ nd
      have := upS_mid nd2 t
      rwa [← hS] at this
    rw [e, prs_app, prs_idem]
    congr 1
    unfold prs
    rw [List.filter_cons, if_pos (by simpa using ht)]
    congr 1
    exact prs_abs (fun q hq => hQ q (List.mem_cons_of_mem _ hq))
section MTRAIN
variable (h : PH) {p : Nat} (g : Nat → Int32) (A : Nat → Nat → Int32) (r : Nat × Nat × Nat) (a c : Nat → Int32) (m : Nat) (f tk rt ps : Nat → Int32) (S : List SL)
/-- the reference's numbers with a new train -/
def ntA (a : Nat → Int32) (k : Nat) (x y d : Int32) : Nat → Int32 := up (up (up (up (up (up a 2 (a 2 + 1)) (22 + 9 * k) (a 2 + 1)) (22 + 9 * k + 1) x) (22 + 9 * k + 2) y) (22 + 9 * k + 3) d) 1 (a 1 + 1)
theorem y171 (hp : 32 ≤ p) (w : WS S) (nf : NF S) (hM : MR a f tk rt (prs S)) {n : Nat} (hn : f 0 = I n) (h7 : n ≤ 7) (h5 : f 5 = I (prs S).length) (h6n : ¬ f 6 + 1 < 0) (x y d : Int32) :
    ∃ g' a' v, rcal 171 [.ref p, .int x, .int y, .int d] (mm h p g A a c m, r) = some (.inl (some (.int v)), (mm h p g' A a' c m, r)) ∧ outM 2 (dTn x y d (f, tk, rt, ps, S)) (f, tk, rt, ps, S) g g' v a a' := by
  have h155 : ∀ v, rcal 155 [.ref p, .int v] (mm h p g A a c m, r) = some (.inl (some (.int (b2i (decide (¬ v < 0 ∧ v < I n))))), (mm h p g A a c m, r)) := fun v => m155 h (up g 13 (I m)) (ua (ua A 1 a) 7 c) r (show a 0 = I n by rw [hM.1.1, hn]) h7 v
  have hL := hM.2.1.2.1
  by_cases c0 : (x < 0 ∨ ¬ x < f 0) ∨ y < 0 ∨ ¬ y < f 0
  · refine ⟨up g 9 1, a, -1, ?_, Or.inl ?_⟩
    · by_cases d0 : ¬ x < 0 ∧ x < I n
      · have d1 : ¬ (¬ y < 0 ∧ y < I n) := fun q => c0.elim (fun e => e.elim d0.1 (fun e => e (hn ▸ d0.2))) (fun e => e.elim q.1 (fun e => e (hn ▸ q.2)))
        simp only [c171, x171_0, x171_1, x171_2, x171_5, x171_8, x171_9, x171_10, x171_13, x171_16, x171_17, x171_18, x171_21, x171_22, x171_23, x171_24, x171_27, x171_28, x171_29, x171_30, x171_33, x171_36, x171_39, x171_40, x171_41, x171_44, x171_45, x171_46, x171_49, x171_50, x171_51, x171_53, x171_56, x171_57, x171_58, x171_61, x171_62, x171_63, x171_66, x171_67, x171_68, x171_71, x171_73, x171_74, x171_77, x171_78, x171_79, x171_80, x171_81, x171_82, x171_83, x171_84, x171_87, x171_89, x171_90, x171_93, x171_94, x171_95, x171_96, x171_97, x171_100, x171_102, x171_103, x171_104, x171_105, x171_106, x171_107, x171_110, x171_112, x171_113, x171_114, x171_115, x171_116, x171_117, x171_120, x171_122, x171_123, x171_124, x171_125, x171_128, x171_129, x171_130, x171_131, x171_132, x171_133, x171_134, x171_137, x171_138, x171_139, x171_140, x171_141, x171_142, x171_143, x171_144, x171_147, x171_148, x171_149, gk_some, pk_some, qk_some, bnd_v, bnd_n, kl_int, kl_ref, kl_null, kl_un, Nat.reduceAdd, if_true, if_false, mm_0, mm_12, mm_13, mm_rv, mm_l0, mm_l1, mm_l3, mm_l4, mm_l5, mm_l6, mm_l7, mm_l8, h155, d0, d1, decide_true, decide_false, not_false_eq_true, and_self, fit1, fit0, fitb, b2i_t, b2i_f, reduceIte, decide_true, decide_false, ne10, Bool.false_eq_true, n150 h g A r a c m hp]
      · simp only [c171, x171_0, x171_1, x171_2, x171_5, x171_8, x171_9, x171_10, x171_13, x171_16, x171_17, x171_18, x171_21, x171_22, x171_23, x171_24, x171_27, x171_28, x171_29, x171_30, x171_33, x171_36, x171_39, x171_40, x171_41, x171_44, x171_45, x171_46, x171_49, x171_50, x171_51, x171_53, x171_56, x171_57, x171_58, x171_61, x171_62, x171_63, x171_66, x171_67, x171_68, x171_71, x171_73, x171_74, x171_77, x171_78, x171_79, x171_80, x171_81, x171_82, x171_83, x171_84, x171_87, x171_89, x171_90, x171_93, x171_94, x171_95, x171_96, x171_97, x171_100, x171_102, x171_103, x171_104, x171_105, x171_106, x171_107, x171_110, x171_112, x171_113, x171_114, x171_115, x171_116, x171_117, x171_120, x171_122, x171_123, x171_124, x171_125, x171_128, x171_129, x171_130, x171_131, x171_132, x171_133, x171_134, x171_137, x171_138, x171_139, x171_140, x171_141, x171_142, x171_143, x171_144, x171_147, x171_148, x171_149, gk_some, pk_some, qk_some, bnd_v, bnd_n, kl_int, kl_ref, kl_null, kl_un, Nat.reduceAdd, if_true, if_false, mm_0, mm_12, mm_13, mm_rv, mm_l0, mm_l1, mm_l3, mm_l4, mm_l5, mm_l6, mm_l7, mm_l8, h155, d0, decide_false, fit1, fit0, fitb, b2i_t, b2i_f, reduceIte, decide_true, decide_false, Bool.false_eq_true, n150 h g A r a c m hp]
    · unfold dTn; rw [if_pos c0]; exact ⟨ng1, rfl, rfl, rfl, rfl⟩
  · have d0 : ¬ x < 0 ∧ x < I n := ⟨fun q => c0 (Or.inl (Or.inl q)), by rw [← hn]; exact Classical.not_not.mp fun q => c0 (Or.inl (Or.inr q))⟩
    have d1 : ¬ y < 0 ∧ y < I n := ⟨fun q => c0 (Or.inr (Or.inl q)), by rw [← hn]; exact Classical.not_not.mp fun q => c0 (Or.inr (Or.inr q))⟩
    by_cases c1 : x = y ∨ d < 1 ∨ 99 < d
    · refine ⟨up g 9 2, a, -1, ?_, Or.inl ?_⟩
      · by_cases e : x = y
        · rw [← e]
          simp only [c171, x171_0, x171_1, x171_2, x171_5, x171_8, x171_9, x171_10, x171_13, x171_16, x171_17, x171_18, x171_21, x171_22, x171_23, x171_24, x171_27, x171_28, x171_29, x171_30, x171_33, x171_36, x171_39, x171_40, x171_41, x171_44, x171_45, x171_46, x171_49, x171_50, x171_51, x171_53, x171_56, x171_57, x171_58, x171_61, x171_62, x171_63, x171_66, x171_67, x171_68, x171_71, x171_73, x171_74, x171_77, x171_78, x171_79, x171_80, x171_81, x171_82, x171_83, x171_84, x171_87, x171_89, x171_90, x171_93, x171_94, x171_95, x171_96, x171_97, x171_100, x171_102, x171_103, x171_104, x171_105, x171_106, x171_107, x171_110, x171_112, x171_113, x171_114, x171_115, x171_116, x171_117, x171_120, x171_122, x171_123, x171_124, x171_125, x171_128, x171_129, x171_130, x171_131, x171_132, x171_133, x171_134, x171_137, x171_138, x171_139, x171_140, x171_141, x171_142, x171_143, x171_144, x171_147, x171_148, x171_149, gk_some, pk_some, qk_some, bnd_v, bnd_n, kl_int, kl_ref, kl_null, kl_un, Nat.reduceAdd, if_true, if_false, mm_0, mm_12, mm_13, mm_rv, mm_l0, mm_l1, mm_l3, mm_l4, mm_l5, mm_l6, mm_l7, mm_l8, h155, d0, decide_true, not_false_eq_true, and_self, fit1, fit0, fitb, b2i_t, b2i_f, reduceIte, decide_true, decide_false, ne10, n150 h g A r a c m hp]
        · have d2 : ¬ (¬ d < 1 ∧ ¬ 99 < d) := fun q => c1.elim e (fun z => z.elim q.1 q.2)
          simp only [c171, x171_0, x171_1, x171_2, x171_5, x171_8, x171_9, x171_10, x171_13, x171_16, x171_17, x171_18, x171_21, x171_22, x171_23, x171_24, x171_27, x171_28, x171_29, x171_30, x171_33, x171_36, x171_39, x171_40, x171_41, x171_44, x171_45, x171_46, x171_49, x171_50, x171_51, x171_53, x171_56, x171_57, x171_58, x171_61, x171_62, x171_63, x171_66, x171_67, x171_68, x171_71, x171_73, x171_74, x171_77, x171_78, x171_79, x171_80, x171_81, x171_82, x171_83, x171_84, x171_87, x171_89, x171_90, x171_93, x171_94, x171_95, x171_96, x171_97, x171_100, x171_102, x171_103, x171_104, x171_105, x171_106, x171_107, x171_110, x171_112, x171_113, x171_114, x171_115, x171_116, x171_117, x171_120, x171_122, x171_123, x171_124, x171_125, x171_128, x171_129, x171_130, x171_131, x171_132, x171_133, x171_134, x171_137, x171_138, x171_139, x171_140, x171_141, x171_142, x171_143, x171_144, x171_147, x171_148, x171_149, gk_some, pk_some, qk_some, bnd_v, bnd_n, kl_int, kl_ref, kl_null, kl_un, Nat.reduceAdd, if_true, if_false, mm_0, mm_12, mm_13, mm_rv, mm_l0, mm_l1, mm_l3, mm_l4, mm_l5, mm_l6, mm_l7, mm_l8, h155, d0, d1, d2, e, m151_99, decide_true, decide_false, not_false_eq_true, and_self, fit1, fit0, fitb, b2i_t, b2i_f, reduceIte, decide_true, decide_false, ne10, Bool.false_eq_true, n150 h g A r a c m hp]
      · unfold dTn; rw [if_neg c0, if_pos c1]; exact ⟨ng2, rfl, rfl, rfl, rfl⟩
    · have e : ¬ x = y := fun q => c1 (Or.inl q)
      have d2 : ¬ d < 1 ∧ ¬ 99 < d := ⟨fun q => c1 (Or.inr (Or.inl q)), fun q => c1 (Or.inr (Or.inr q))⟩
      by_cases c2 : (prs S).length = 6
      · refine ⟨up g 9 3, a, -1, ?_, Or.inl ?_⟩
        · simp only [c171, x171_0, x171_1, x171_2, x171_5, x171_8, x171_9, x171_10, x171_13, x171_16, x171_17, x171_18, x171_21, x171_22, x171_23, x171_24, x171_27, x171_28, x171_29, x171_30, x171_33, x171_36, x171_39, x171_40, x171_41, x171_44, x171_45, x171_46, x171_49, x171_50, x171_51, x171_53, x171_56, x171_57, x171_58, x171_61, x171_62, x171_63, x171_66, x171_67, x171_68, x171_71, x171_73, x171_74, x171_77, x171_78, x171_79, x171_80, x171_81, x171_82, x171_83, x171_84, x171_87, x171_89, x171_90, x171_93, x171_94, x171_95, x171_96, x171_97, x171_100, x171_102, x171_103, x171_104, x171_105, x171_106, x171_107, x171_110, x171_112, x171_113, x171_114, x171_115, x171_116, x171_117, x171_120, x171_122, x171_123, x171_124, x171_125, x171_128, x171_129, x171_130, x171_131, x171_132, x171_133, x171_134, x171_137, x171_138, x171_139, x171_140, x171_141, x171_142, x171_143, x171_144, x171_147, x171_148, x171_149, gk_some, pk_some, qk_some, bnd_v, bnd_n, kl_int, kl_ref, kl_null, kl_un, Nat.reduceAdd, if_true, if_false, mm_0, mm_12, mm_13, mm_rv, mm_l0, mm_l1, mm_l3, mm_l4, mm_l5, mm_l6, mm_l7, mm_l8, h155, d0, d1, d2, e, m151_99, decide_true, not_false_eq_true, and_self, fit1, fit0, fitb, b2i_t, b2i_f, reduceIte, decide_true, decide_false, ne10, hM.2.1.1, c2, show I 6 = 6 from rfl, n150 h g A r a c m hp]
        · unfold dTn; rw [if_neg c0, if_neg c1, if_pos (by show ¬ f 5 < 6; rw [h5, c2]; decide)]; exact ⟨ng3, rfl, rfl, rfl, rfl⟩
      · have c2' : ¬ I (prs S).length = 6 := by rw [show (6 : Int32) = I 6 from rfl, I_inj (by omega) (by decide)]; exact c2
        have ed : dTn x y d (f, tk, rt, ps, S) = (f 6 + 1, (up (up f 6 (f 6 + 1)) 5 (f 5 + 1), tk, rt, ps, upS S (homeAt S (prs S).length) (2, ntF f rt x y d))) := by
          unfold dTn; rw [if_neg c0, if_neg c1, if_neg (by show ¬ ¬ f 5 < 6; rw [h5, lt6_ne hL]; simpa using c2')]
          simp only [h5]
          rw [I_nat (by omega)]
        obtain ⟨⟨s0, s2, s3, s4, s5, s6, s7, s8, s9, s10⟩, hT, hZ⟩ := hM
        have w1 := fun a k (hk : k < 76) v => mm_wA h g A r a c m hp hk v
        have W1 := w1 (up a 2 (a 2 + 1)) (22 + 9 * (prs S).length) (by omega) (a 2 + 1)
        have W2 := w1 (up (up a 2 (a 2 + 1)) (22 + 9 * (prs S).length) (a 2 + 1)) (22 + 9 * (prs S).length + 1) (by omega) x
        have W3 := w1 (up (up (up a 2 (a 2 + 1)) (22 + 9 * (prs S).length) (a 2 + 1)) (22 + 9 * (prs S).length + 1) x) (22 + 9 * (prs S).length + 2) (by omega) y
        have W4 := w1 (up (up (up (up a 2 (a 2 + 1)) (22 + 9 * (prs S).length) (a 2 + 1)) (22 + 9 * (prs S).length + 1) x) (22 + 9 * (prs S).length + 2) y) (22 + 9 * (prs S).length + 3) (by omega) (a 3 + d)
        have q2 : ∀ j, j < 9 → (2 ≠ 22 + 9 * (prs S).length + j ∧ 3 ≠ 22 + 9 * (prs S).length + j ∧ 1 ≠ 22 + 9 * (prs S).length + j) := fun j _ => ⟨by omega, by omega, by omega⟩
        have a20 : 2 ≠ 22 + 9 * (prs S).length := by omega
        have a30 : 3 ≠ 22 + 9 * (prs S).length := by omega
        have a10 : 1 ≠ 22 + 9 * (prs S).length := by omega
        have a21 := (q2 1 (by decide)).1
        have a31 := (q2 1 (by decide)).2.1
        have a11 := (q2 1 (by decide)).2.2
        have a22 := (q2 2 (by decide)).1
        have a32 := (q2 2 (by decide)).2.1
        have a12 := (q2 2 (by decide)).2.2
        have a23 := (q2 3 (by decide)).1
        have a13 := (q2 3 (by decide)).2.2
        rw [ed]
        refine ⟨g, ntA a (prs S).length x y (a 3 + d), a 2 + 1, ?_, Or.inr ⟨h6n, rfl, by rw [s2], ?_⟩⟩
        · unfold ntA
          simp only [c171, x171_0, x171_1, x171_2, x171_5, x171_8, x171_9, x171_10, x171_13, x171_16, x171_17, x171_18, x171_21, x171_22, x171_23, x171_24, x171_27, x171_28, x171_29, x171_30, x171_33, x171_36, x171_39, x171_40, x171_41, x171_44, x171_45, x171_46, x171_49, x171_50, x171_51, x171_53, x171_56, x171_57, x171_58, x171_61, x171_62, x171_63, x171_66, x171_67, x171_68, x171_71, x171_73, x171_74, x171_77, x171_78, x171_79, x171_80, x171_81, x171_82, x171_83, x171_84, x171_87, x171_89, x171_90, x171_93, x171_94, x171_95, x171_96, x171_97, x171_100, x171_102, x171_103, x171_104, x171_105, x171_106, x171_107, x171_110, x171_112, x171_113, x171_114, x171_115, x171_116, x171_117, x171_120, x171_122, x171_123, x171_124, x171_125, x171_128, x171_129, x171_130, x171_131, x171_132, x171_133, x171_134, x171_137, x171_138, x171_139, x171_140, x171_141, x171_142, x171_143, x171_144, x171_147, x171_148, x171_149, gk_some, pk_some, qk_some, bnd_v, bnd_n, kl_int, kl_ref, kl_null, kl_un, Nat.reduceAdd, if_true, if_false, mm_0, mm_12, mm_13, mm_rv, mm_l0, mm_l1, mm_l3, mm_l4, mm_l5, mm_l6, mm_l7, mm_l8, mm_l2, h155, d0, d1, d2, e, m151_99, decide_true, not_false_eq_true, and_self, fit1, fit0, fitb, b2i_t, b2i_f, reduceIte, decide_true, decide_false, ne10, hT.1, c2', m154, I_1, Ia2, Ia3, Ia4, Ia5, Ia6, Ia7, Ia8, Ia9, Ia10, Ia11, Ia12, Il9, Il16, Il22, Il76, Im9, mm_w1 h _ _ _ _ _ _ hp, mm_w2 h _ _ _ _ _ _ hp, up_eq, up_ne, ne_eq, not_false_eq_true, Nat.reduceEqDiff, W1, W2, W3, W4, a20, a30, a10, a21, a31, a11, a22, a32, a12, a23, a13]
        · have hnw := nf_new w nf (by omega) (t := (2, ntF f rt x y d)) (by show ¬ 2 = 1; decide)
          show MR _ (up (up f 6 (f 6 + 1)) 5 (f 5 + 1)) tk rt (prs (upS S (homeAt S (prs S).length) (2, ntF f rt x y d)))
          rw [hnw]
          have lo : ∀ i, i < 22 → i ≠ 1 → i ≠ 2 → ntA a (prs S).length x y (a 3 + d) i = a i := by
            intro i i1 i2 i3
            unfold ntA
            rw [up_ne _ _ i2, up_ne _ _ (by omega), up_ne _ _ (by omega), up_ne _ _ (by omega), up_ne _ _ (by omega), up_ne _ _ i3]
          have hi : ∀ i, 22 ≤ i → (i < 22 + 9 * (prs S).length ∨ 22 + 9 * (prs S).length + 4 ≤ i) → ntA a (prs S).length x y (a 3 + d) i = a i := by
            intro i i1 i2
            unfold ntA
            rw [up_ne _ _ (by omega), up_ne _ _ (by omega), up_ne _ _ (by omega), up_ne _ _ (by omega), up_ne _ _ (by omega), up_ne _ _ (by omega)]
          have n1 : ntA a (prs S).length x y (a 3 + d) 1 = a 1 + 1 := by unfold ntA; rw [up_eq]
          have n2 : ntA a (prs S).length x y (a 3 + d) 2 = a 2 + 1 := by
            unfold ntA
            rw [up_ne _ _ (by decide), up_ne _ _ (by omega), up_ne _ _ (by omega), up_ne _ _ (by omega), up_ne _ _ (by omega), up_eq]
          refine ⟨⟨?_, ?_, ?_, ?_, ?_, ?_, ?_, ?_, ?_, ?_⟩, ?_, ?_⟩
          · rw [lo 0 (by decide) (by decide) (by decide), s0]; simp [up]
          · rw [n2, s2]; simp [up]
          · rw [lo 3 (by decide) (by decide) (by decide), s3]; simp [up]
          · rw [lo 4 (by decide) (by decide) (by decide), s4]; simp [up]
          · rw [lo 5 (by decide) (by decide) (by decide), s5]; simp [up]
          · rw [lo 6 (by decide) (by decide) (by decide), s6]; simp [up]
          · rw [lo 7 (by decide) (by decide) (by decide), s7]; simp [up]
          · rw [lo 8 (by decide) (by decide) (by decide), s8]; simp [up]
          · intro k hk; rw [lo _ (by omega) (by omega) (by omega), s9 k hk]
          · intro k hk; rw [lo _ (by omega) (by omega) (by omega), s10 k hk]
          · refine TR_of ?_ (by rw [List.length_append, List.length_singleton]; omega) fun k s hk i hi9 => ?_
            · rw [n1, hT.1, I_1, List.length_append, List.length_singleton]
            · by_cases e3 : k < (prs S).length
              · rw [List.getElem?_append_left e3] at hk
                rw [hi _ (by omega) (by omega)]
                exact TR_ix hT hk hi9
              · have hkl : k < (prs S ++ [(homeAt S (prs S).length, (2, ntF f rt x y d))]).length := (List.getElem?_eq_some_iff.mp hk).1
                rw [List.length_append, List.length_singleton] at hkl
                have hke : k = (prs S).length := by omega
                subst hke
                have hse : s = (homeAt S (prs S).length, (2, ntF f rt x y d)) := by simpa using hk.symm
                rw [hse]
                rcases (by omega : i = 0 ∨ i = 1 ∨ i = 2 ∨ i = 3 ∨ (4 ≤ i ∧ i ≤ 8)) with rfl | rfl | rfl | rfl | hh
                · unfold ntA
                  rw [up_ne _ _ (by omega), up_ne _ _ (by omega), up_ne _ _ (by omega), up_ne _ _ (by omega), Nat.add_zero, up_eq, s2]; rfl
                · unfold ntA
                  rw [up_ne _ _ (by omega), up_ne _ _ (by omega), up_ne _ _ (by omega), up_eq]; rfl
                · unfold ntA
                  rw [up_ne _ _ (by omega), up_ne _ _ (by omega), up_eq]; rfl
                · unfold ntA
                  rw [up_ne _ _ (by omega), up_eq, s3]; rfl
                · rw [hi _ (by omega) (by omega), hZ _ (by omega) (by omega)]
                  rcases (by omega : i = 4 ∨ i = 5 ∨ i = 6 ∨ i = 7 ∨ i = 8) with rfl | rfl | rfl | rfl | rfl <;> rfl
          · intro i i1 i2
            rw [List.length_append, List.length_singleton] at i1
            rw [hi _ (by omega) (by omega)]
            exact hZ i (by omega) i2
end MTRAIN
