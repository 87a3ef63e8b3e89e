/-! the reference's commands -/
/-- which exception a refusal is, by its place -/
def thr (k : Nat) (v : Int32) : Int32 := match k with
  | 0 => if v = -2 then 1 else 2
  | 1 => if v = -1 then 1 else if v = -2 then 2 else 3
  | 2 => if v = -1 then 1 else if v = -2 then 2 else 3
  | 6 => 1
  | _ => if v = -4 then 1 else 2
def MRL (a : Nat → Int32) (L : LN) : Prop := MR a L.1 L.2.1 L.2.2.1 (prs L.2.2.2.2)
/-- a command's outcome in the reference -/
def outM (k : Nat) (d : Int32 × LN) (L : LN) (g g' : Nat → Int32) (v : Int32) (a a' : Nat → Int32) : Prop :=
  (d.1 < 0 ∧ d.2 = L ∧ g' = up g 9 (thr k d.1) ∧ v = -1 ∧ a' = a) ∨ (¬ d.1 < 0 ∧ g' = g ∧ v = d.1 ∧ MRL a' d.2)
theorem up_comm (f : Nat → Int32) {i j : Nat} (hij : i ≠ j) (v w : Int32) : up (up f i v) j w = up (up f j w) i v := by
  funext k; simp only [up]
  by_cases h1 : k = i
  · subst h1; simp [hij]
  · by_cases h2 : k = j
    · subst h2; simp [h1]
    · simp [h1, h2]
theorem ng1 : (-1 : Int32) < 0 := by decide
theorem ng2 : (-2 : Int32) < 0 := by decide
theorem ng3 : (-3 : Int32) < 0 := by decide
theorem ng4 : (-4 : Int32) < 0 := by decide
section MCMD
variable (h : PH) {p : Nat} (g : Nat → Int32) (A : Nat → Nat → Int32) (r : Nat × Nat × Nat) (a c : Nat → Int32) (m : Nat) (f tk rt ps : Nat → Int32) (S : List SL)
theorem mm_p9 (hp : 32 ≤ p) (v : Int32) : pfd (mm h p g A a c m, r) true 5 9 p (.int v) = some (mm h p (up g 9 v) A a c m, r) := by
  unfold mm
  rw [pm9 h _ _ r hp, up_comm g (by decide)]
theorem n150 (hp : 32 ≤ p) (v : Int32) : rcal 150 [.ref p, .int v] (mm h p g A a c m, r) = some (.inl (some (.int (-1))), (mm h p (up g 9 v) A a c m, r)) := by
  simp only [c150, x150_0, x150_1, x150_2, x150_5, x150_6, gk_some, pk_some, qk_some, bnd_v, bnd_n, kl_int, kl_ref, kl_null, kl_un, Nat.reduceAdd, if_true, if_false, mm_p9 h _ _ _ _ _ _ hp]
theorem mm_l2 : ald (mm h p g A a c m, r) 100 (p + 1) 2 = some (.int (a 2)) := mm_l h g A r a c m 2 (by decide) rfl
theorem mm_w0 (hp : 32 ≤ p) (v : Int32) : ast (mm h p g A a c m, r) 100 (p + 1) 0 (.int v) = some (mm h p g A (up a 0 v) c m, r) := mm_w h g A r a c m hp 0 (by decide) rfl v
theorem mm_w2 (hp : 32 ≤ p) (v : Int32) : ast (mm h p g A a c m, r) 100 (p + 1) 2 (.int v) = some (mm h p g A (up a 2 v) c m, r) := mm_w h g A r a c m hp 2 (by decide) rfl v
theorem lt7_ne {n : Nat} (h7 : n ≤ 7) : (I n < 7) = ¬ (I n = 7) := by
  rw [show (7 : Int32) = I 7 from rfl, I_inj (by omega) (by decide)]
  exact propext ((I_lt (by omega) (by decide)).trans (by omega))
theorem lt6_ne {n : Nat} (h6 : n ≤ 6) : (I n < 6) = ¬ (I n = 6) := by
  rw [show (6 : Int32) = I 6 from rfl, I_inj (by omega) (by decide)]
  exact propext ((I_lt (by omega) (by decide)).trans (by omega))
theorem y167 (hp : 32 ≤ p) (hM : MR a f tk rt (prs S)) {n : Nat} (hn : f 0 = I n) (h7 : n ≤ 7) (t u : Int32) :
    ∃ g' a' v, rcal 167 [.ref p, .int t, .int u] (mm h p g A a c m, r) = some (.inl (some (.int v)), (mm h p g' A a' c m, r)) ∧ outM 0 (dSt t u (f, tk, rt, ps, S)) (f, tk, rt, ps, S) g g' v a a' := by
  by_cases c0 : t < 1 ∨ 4 < t ∨ u < 1 ∨ 30 < u
  · refine ⟨up g 9 1, a, -1, ?_, Or.inl ?_⟩
    · by_cases d1 : ¬ t < 1 ∧ ¬ 4 < t
      · have d2 : ¬ (¬ u < 1 ∧ ¬ 30 < u) := fun q => c0.elim d1.1 (fun e => e.elim d1.2 (fun e => e.elim q.1 q.2))
        simp only [c167, x167_0, x167_1, x167_2, x167_3, x167_6, x167_9, x167_12, x167_13, x167_14, x167_15, x167_18, x167_21, x167_24, x167_25, x167_26, x167_29, x167_30, x167_31, x167_34, x167_35, x167_36, x167_38, x167_41, x167_42, x167_43, x167_46, x167_47, x167_48, x167_51, x167_53, x167_54, x167_57, x167_58, x167_59, x167_60, x167_61, x167_62, x167_63, x167_66, x167_67, x167_68, x167_71, x167_72, x167_75, x167_77, x167_78, x167_81, x167_82, x167_83, x167_84, x167_85, x167_86, x167_87, x167_88, x167_89, x167_92, x167_93, x167_94, x167_95, x167_96, x167_97, x167_98, x167_99, x167_102, x167_103, x167_104, x167_105, x167_106, gk_some, pk_some, qk_some, bnd_v, bnd_n, kl_int, kl_ref, kl_null, kl_un, Nat.reduceAdd, if_true, if_false, m151_4, m151_30, d1, d2, decide_true, decide_false, fit1, fit0, fitb, b2i_t, b2i_f, reduceIte, decide_true, decide_false, not_false_eq_true, and_self, ne10, Bool.false_eq_true, mm_0, mm_12, mm_13, mm_rv, mm_l0, mm_l1, mm_l3, mm_l4, mm_l5, mm_l6, mm_l7, mm_l8, n150 h g A r a c m hp]
      · simp only [c167, x167_0, x167_1, x167_2, x167_3, x167_6, x167_9, x167_12, x167_13, x167_14, x167_15, x167_18, x167_21, x167_24, x167_25, x167_26, x167_29, x167_30, x167_31, x167_34, x167_35, x167_36, x167_38, x167_41, x167_42, x167_43, x167_46, x167_47, x167_48, x167_51, x167_53, x167_54, x167_57, x167_58, x167_59, x167_60, x167_61, x167_62, x167_63, x167_66, x167_67, x167_68, x167_71, x167_72, x167_75, x167_77, x167_78, x167_81, x167_82, x167_83, x167_84, x167_85, x167_86, x167_87, x167_88, x167_89, x167_92, x167_93, x167_94, x167_95, x167_96, x167_97, x167_98, x167_99, x167_102, x167_103, x167_104, x167_105, x167_106, gk_some, pk_some, qk_some, bnd_v, bnd_n, kl_int, kl_ref, kl_null, kl_un, Nat.reduceAdd, if_true, if_false, m151_4, d1, decide_false, fit1, fit0, fitb, b2i_t, b2i_f, reduceIte, decide_true, decide_false, Bool.false_eq_true, mm_0, mm_12, mm_13, mm_rv, mm_l0, mm_l1, mm_l3, mm_l4, mm_l5, mm_l6, mm_l7, mm_l8, n150 h g A r a c m hp]
    · unfold dSt; rw [if_pos c0]; exact ⟨ng2, rfl, rfl, rfl, rfl⟩
  · have d1 : ¬ t < 1 ∧ ¬ 4 < t := ⟨fun q => c0 (Or.inl q), fun q => c0 (Or.inr (Or.inl q))⟩
    have d2 : ¬ u < 1 ∧ ¬ 30 < u := ⟨fun q => c0 (Or.inr (Or.inr (Or.inl q))), fun q => c0 (Or.inr (Or.inr (Or.inr q)))⟩
    by_cases c7 : n = 7
    · refine ⟨up g 9 2, a, -1, ?_, Or.inl ?_⟩
      · simp only [c167, x167_0, x167_1, x167_2, x167_3, x167_6, x167_9, x167_12, x167_13, x167_14, x167_15, x167_18, x167_21, x167_24, x167_25, x167_26, x167_29, x167_30, x167_31, x167_34, x167_35, x167_36, x167_38, x167_41, x167_42, x167_43, x167_46, x167_47, x167_48, x167_51, x167_53, x167_54, x167_57, x167_58, x167_59, x167_60, x167_61, x167_62, x167_63, x167_66, x167_67, x167_68, x167_71, x167_72, x167_75, x167_77, x167_78, x167_81, x167_82, x167_83, x167_84, x167_85, x167_86, x167_87, x167_88, x167_89, x167_92, x167_93, x167_94, x167_95, x167_96, x167_97, x167_98, x167_99, x167_102, x167_103, x167_104, x167_105, x167_106, gk_some, pk_some, qk_some, bnd_v, bnd_n, kl_int, kl_ref, kl_null, kl_un, Nat.reduceAdd, if_true, if_false, m151_4, m151_30, d1, d2, decide_true, fit1, fit0, fitb, b2i_t, b2i_f, reduceIte, decide_true, decide_false, not_false_eq_true, and_self, ne10, mm_0, mm_12, mm_13, mm_rv, mm_l0, mm_l1, mm_l3, mm_l4, mm_l5, mm_l6, mm_l7, mm_l8, hM.1.1, hn, c7, show I 7 = 7 from rfl, n150 h g A r a c m hp]
      · unfold dSt; rw [if_neg c0, if_pos (by show ¬ f 0 < 7; rw [hn, c7]; decide)]; exact ⟨ng3, rfl, rfl, rfl, rfl⟩
    · have c7' : ¬ I n = 7 := by rw [show (7 : Int32) = I 7 from rfl, I_inj (by omega) (by decide)]; exact c7
      have w1 := mm_wA h g A r a c m hp (n := 9 + n) (by omega) t
      obtain ⟨⟨s0, s2, s3, s4, s5, s6, s7, s8, s9, s10⟩, hT, hZ⟩ := hM
      have q0 : 0 ≠ 9 + n := by omega
      have q1 : 0 ≠ 16 + (n - 1) := by omega
      have ed : dSt t u (f, tk, rt, ps, S) = (I n, (up f 0 (I n + 1), up tk n t, (if 0 < I n then up rt (I n - 1).toNatClampNeg u else rt), (if 0 < I n then up ps n (ps (I n - 1).toNatClampNeg + u) else ps), S)) := by
        unfold dSt
        rw [if_neg c0]
        simp only [hn]
        rw [if_neg (by rw [lt7_ne h7]; simpa using c7'), I_nat7 h7]
      rw [ed]
      have core : ∀ a', (∀ i, 22 ≤ i → a' i = a i) → a' 1 = a 1 → a' 0 = I n + 1 → (∀ i, 2 ≤ i → i < 9 → a' i = a i) → (∀ k, k < 7 → a' (9 + k) = up tk n t k) → (∀ k, k < 6 → a' (16 + k) = (if 0 < I n then up rt (I n - 1).toNatClampNeg u else rt) k) →
          MRL a' (up f 0 (I n + 1), up tk n t, (if 0 < I n then up rt (I n - 1).toNatClampNeg u else rt), (if 0 < I n then up ps n (ps (I n - 1).toNatClampNeg + u) else ps), S) := by
        intro a' h1 h2 h3 h4 h5 h6
        refine ⟨⟨?_, ?_, ?_, ?_, ?_, ?_, ?_, ?_, h5, h6⟩, ⟨by rw [h2]; exact hT.1, hT.2.1, fun D s R hP k hk => by rw [h1 _ (by omega)]; exact hT.2.2 D s R hP k hk⟩, fun i i1 i2 => by rw [h1 _ (by omega)]; exact hZ i i1 i2⟩
        · rw [h3]; simp [up]
        · rw [h4 2 (by decide) (by decide), s2]; simp [up]
        · rw [h4 3 (by decide) (by decide), s3]; simp [up]
        · rw [h4 4 (by decide) (by decide), s4]; simp [up]
        · rw [h4 5 (by decide) (by decide), s5]; simp [up]
        · rw [h4 6 (by decide) (by decide), s6]; simp [up]
        · rw [h4 7 (by decide) (by decide), s7]; simp [up]
        · rw [h4 8 (by decide) (by decide), s8]; simp [up]
      have hsub : I n + 1 - 1 = I n := by rw [I_1, I_sub1 (by omega)]; rfl
      have hnn : ¬ I n < 0 := I_nn (by omega)
      by_cases c6 : 0 < n
      · have c6' : 0 < I n := by rw [show (0 : Int32) = I 0 from rfl]; exact (I_lt (by decide) (by omega)).mpr c6
        have w2 := mm_wA h g A r (up a (9 + n) t) c m hp (n := 16 + (n - 1)) (by omega) u
        have hi : I (16 + n) - 1 = I (16 + (n - 1)) := by rw [I_sub1 (by omega)]; congr 1; omega
        refine ⟨g, up (up (up a (9 + n) t) (16 + (n - 1)) u) 0 (I n + 1), I n, ?_, Or.inr ⟨hnn, rfl, rfl, core _ ?_ ?_ ?_ ?_ ?_ ?_⟩⟩
        · simp only [c167, x167_0, x167_1, x167_2, x167_3, x167_6, x167_9, x167_12, x167_13, x167_14, x167_15, x167_18, x167_21, x167_24, x167_25, x167_26, x167_29, x167_30, x167_31, x167_34, x167_35, x167_36, x167_38, x167_41, x167_42, x167_43, x167_46, x167_47, x167_48, x167_51, x167_53, x167_54, x167_57, x167_58, x167_59, x167_60, x167_61, x167_62, x167_63, x167_66, x167_67, x167_68, x167_71, x167_72, x167_75, x167_77, x167_78, x167_81, x167_82, x167_83, x167_84, x167_85, x167_86, x167_87, x167_88, x167_89, x167_92, x167_93, x167_94, x167_95, x167_96, x167_97, x167_98, x167_99, x167_102, x167_103, x167_104, x167_105, x167_106, gk_some, pk_some, qk_some, bnd_v, bnd_n, kl_int, kl_ref, kl_null, kl_un, Nat.reduceAdd, if_true, if_false, m151_4, m151_30, d1, d2, decide_true, fit1, fit0, fitb, b2i_t, b2i_f, reduceIte, decide_true, decide_false, not_false_eq_true, and_self, ne10, mm_0, mm_12, mm_13, mm_rv, mm_l0, mm_l1, mm_l3, mm_l4, mm_l5, mm_l6, mm_l7, mm_l8, s0, hn, c7', Il9, w1, up_eq, up_ne, ne_eq, not_false_eq_true, Nat.reduceEqDiff, q0, c6', Il16, hi, w2, q1, mm_w0 h _ _ _ _ _ _ hp, hsub]
        · intro i i1; rw [up_ne _ _ (by omega), up_ne _ _ (by omega), up_ne _ _ (by omega)]
        · rw [up_ne _ _ (by omega), up_ne _ _ (by omega), up_ne _ _ (by omega)]
        · rw [up_eq]
        · intro i i1 i2; rw [up_ne _ _ (by omega), up_ne _ _ (by omega), up_ne _ _ (by omega)]
        · intro k hk
          rw [up_ne _ _ (by omega), up_ne _ _ (by omega)]
          by_cases e : k = n
          · subst e; rw [up_eq, up_eq]
          · rw [up_ne _ _ (by omega), up_ne _ _ e, s9 k hk]
        · intro k hk
          rw [if_pos c6', I_sub1 (by omega), I_nat (by omega), up_ne _ _ (by omega)]
          by_cases e : k = n - 1
          · subst e; rw [up_eq, up_eq]
          · rw [up_ne _ _ (by omega), up_ne _ _ (by omega), up_ne _ _ e, s10 k hk]
      · have c6' : ¬ 0 < I n := by rw [show (0 : Int32) = I 0 from rfl, I_lt (by decide) (by omega)]; exact c6
        refine ⟨g, up (up a (9 + n) t) 0 (I n + 1), I n, ?_, Or.inr ⟨hnn, rfl, rfl, core _ ?_ ?_ ?_ ?_ ?_ ?_⟩⟩
        · simp only [c167, x167_0, x167_1, x167_2, x167_3, x167_6, x167_9, x167_12, x167_13, x167_14, x167_15, x167_18, x167_21, x167_24, x167_25, x167_26, x167_29, x167_30, x167_31, x167_34, x167_35, x167_36, x167_38, x167_41, x167_42, x167_43, x167_46, x167_47, x167_48, x167_51, x167_53, x167_54, x167_57, x167_58, x167_59, x167_60, x167_61, x167_62, x167_63, x167_66, x167_67, x167_68, x167_71, x167_72, x167_75, x167_77, x167_78, x167_81, x167_82, x167_83, x167_84, x167_85, x167_86, x167_87, x167_88, x167_89, x167_92, x167_93, x167_94, x167_95, x167_96, x167_97, x167_98, x167_99, x167_102, x167_103, x167_104, x167_105, x167_106, gk_some, pk_some, qk_some, bnd_v, bnd_n, kl_int, kl_ref, kl_null, kl_un, Nat.reduceAdd, if_true, if_false, m151_4, m151_30, d1, d2, decide_true, fit1, fit0, fitb, b2i_t, b2i_f, reduceIte, decide_true, decide_false, not_false_eq_true, and_self, ne10, mm_0, mm_12, mm_13, mm_rv, mm_l0, mm_l1, mm_l3, mm_l4, mm_l5, mm_l6, mm_l7, mm_l8, s0, hn, c7', Il9, w1, up_eq, up_ne, ne_eq, not_false_eq_true, Nat.reduceEqDiff, q0, c6', mm_w0 h _ _ _ _ _ _ hp, hsub]
        · intro i i1; rw [up_ne _ _ (by omega), up_ne _ _ (by omega)]
        · rw [up_ne _ _ (by omega), up_ne _ _ (by omega)]
        · rw [up_eq]
        · intro i i1 i2; rw [up_ne _ _ (by omega), up_ne _ _ (by omega)]
        · intro k hk
          rw [up_ne _ _ (by omega)]
          by_cases e : k = n
          · subst e; rw [up_eq, up_eq]
          · rw [up_ne _ _ (by omega), up_ne _ _ e, s9 k hk]
        · intro k hk
          rw [if_neg c6', up_ne _ _ (by omega), up_ne _ _ (by omega), s10 k hk]
theorem y169 (hp : 32 ≤ p) (hM : MR a f tk rt (prs S)) (ka : ahdK (prs S)) {n : Nat} (hn : f 0 = I n) (h7 : n ≤ 7) (htk : ∀ k, k < 7 → ¬ tk k < 0) (v t : Int32) :
    ∃ g' a' x, rcal 169 [.ref p, .int v, .int t] (mm h p g A a c m, r) = some (.inl (some (.int x)), (mm h p g' A a' c m, r)) ∧ outM 1 (dTr v t (f, tk, rt, ps, S)) (f, tk, rt, ps, S) g g' x a a' := by
  have h155 : rcal 155 [.ref p, .int v] (mm h p g A a c m, r) = some (.inl (some (.int (b2i (decide (¬ v < 0 ∧ v < I n))))), (mm h p g A a c m, r)) := m155 h (up g 13 (I m)) (ua (ua A 1 a) 7 c) r (show a 0 = I n by rw [hM.1.1, hn]) h7 v
  by_cases c0 : v < 0 ∨ ¬ v < f 0
  · have d0 : ¬ (¬ v < 0 ∧ v < I n) := fun q => c0.elim q.1 (fun e => e (hn ▸ q.2))
    refine ⟨up g 9 1, a, -1, ?_, Or.inl ?_⟩
    · simp only [c169, x169_0, x169_1, x169_2, x169_5, x169_8, x169_9, x169_10, x169_13, x169_14, x169_15, x169_16, x169_17, x169_20, x169_23, x169_26, x169_27, x169_28, x169_31, x169_32, x169_33, x169_34, x169_37, x169_38, x169_41, x169_42, x169_43, x169_46, x169_47, x169_48, x169_51, x169_53, x169_54, x169_55, x169_56, x169_57, x169_58, x169_61, x169_63, x169_64, x169_65, x169_66, x169_67, x169_68, gk_some, pk_some, qk_some, bnd_v, bnd_n, kl_int, kl_ref, kl_null, kl_un, Nat.reduceAdd, if_true, if_false, mm_0, mm_12, mm_13, mm_rv, mm_l0, mm_l1, mm_l3, mm_l4, mm_l5, mm_l6, mm_l7, mm_l8, h155, d0, decide_false, fit1, fit0, fitb, b2i_t, b2i_f, reduceIte, decide_true, decide_false, Bool.false_eq_true, n150 h g A r a c m hp]
    · unfold dTr; rw [if_pos c0]; exact ⟨ng1, rfl, rfl, rfl, rfl⟩
  · have d0 : ¬ v < 0 ∧ v < I n := ⟨fun q => c0 (Or.inl q), by rw [← hn]; exact Classical.not_not.mp fun q => c0 (Or.inr q)⟩
    by_cases c1 : t < 1 ∨ 4 < t
    · have d1 : ¬ (¬ t < 1 ∧ ¬ 4 < t) := fun q => c1.elim q.1 q.2
      refine ⟨up g 9 2, a, -1, ?_, Or.inl ?_⟩
      · simp only [c169, x169_0, x169_1, x169_2, x169_5, x169_8, x169_9, x169_10, x169_13, x169_14, x169_15, x169_16, x169_17, x169_20, x169_23, x169_26, x169_27, x169_28, x169_31, x169_32, x169_33, x169_34, x169_37, x169_38, x169_41, x169_42, x169_43, x169_46, x169_47, x169_48, x169_51, x169_53, x169_54, x169_55, x169_56, x169_57, x169_58, x169_61, x169_63, x169_64, x169_65, x169_66, x169_67, x169_68, gk_some, pk_some, qk_some, bnd_v, bnd_n, kl_int, kl_ref, kl_null, kl_un, Nat.reduceAdd, if_true, if_false, mm_0, mm_12, mm_13, mm_rv, mm_l0, mm_l1, mm_l3, mm_l4, mm_l5, mm_l6, mm_l7, mm_l8, h155, d0, d1, decide_true, decide_false, not_false_eq_true, and_self, fit1, fit0, fitb, b2i_t, b2i_f, reduceIte, decide_true, decide_false, ne10, Bool.false_eq_true, m151_4, n150 h g A r a c m hp]
      · unfold dTr; rw [if_neg c0, if_pos c1]; exact ⟨ng2, rfl, rfl, rfl, rfl⟩
    · have d1 : ¬ t < 1 ∧ ¬ 4 < t := ⟨fun q => c1 (Or.inl q), fun q => c1 (Or.inr q)⟩
      have hvn := nat_lt2 d0.1 d0.2 h7
      have hv := I_of d0.1
      have h162 : rcal 162 [.ref p, .int v] (mm h p g A a c m, r) = some (.inl (some (.int (I ((prs S).countP (occP v))))), (mm h p g A a c m, r)) := m162 h (up g 13 (I m)) (ua (ua A 1 a) 7 c) r hM.2.1 ka v
      have hcmp : tk v.toNatClampNeg - freN tk S v = I ((prs S).countP (occP v)) := by
        rw [freN_prs]; generalize I ((prs S).countP (occP v)) = y; grind
      have s9 := hM.1.2.2.2.2.2.2.2.2.1
      have hrt : ald (mm h p g A a c m, r) 100 (p + 1) (9 + v) = some (.int (tk v.toNatClampNeg)) := by
        have e := mm_rA h g A r a c m (p := p) (n := 9 + v.toNatClampNeg) (by omega)
        rw [s9 _ (by omega)] at e
        rw [← e]; congr 1
        show 9 + v = I (9 + v.toNatClampNeg)
        rw [← Il9, ← hv]
      by_cases c2 : t < tk v.toNatClampNeg - freN tk S v
      · have d2 : t < I ((prs S).countP (occP v)) := hcmp ▸ c2
        refine ⟨up g 9 3, a, -1, ?_, Or.inl ?_⟩
        · simp only [c169, x169_0, x169_1, x169_2, x169_5, x169_8, x169_9, x169_10, x169_13, x169_14, x169_15, x169_16, x169_17, x169_20, x169_23, x169_26, x169_27, x169_28, x169_31, x169_32, x169_33, x169_34, x169_37, x169_38, x169_41, x169_42, x169_43, x169_46, x169_47, x169_48, x169_51, x169_53, x169_54, x169_55, x169_56, x169_57, x169_58, x169_61, x169_63, x169_64, x169_65, x169_66, x169_67, x169_68, gk_some, pk_some, qk_some, bnd_v, bnd_n, kl_int, kl_ref, kl_null, kl_un, Nat.reduceAdd, if_true, if_false, mm_0, mm_12, mm_13, mm_rv, mm_l0, mm_l1, mm_l3, mm_l4, mm_l5, mm_l6, mm_l7, mm_l8, h155, d0, d1, d2, decide_true, not_false_eq_true, and_self, fit1, fit0, fitb, b2i_t, b2i_f, reduceIte, decide_true, decide_false, ne10, m151_4, h162, n150 h g A r a c m hp]
        · unfold dTr; rw [if_neg c0, if_neg c1, if_pos c2]; exact ⟨ng3, rfl, rfl, rfl, rfl⟩
      · have d2 : ¬ t < I ((prs S).countP (occP v)) := by rw [← hcmp]; exact c2
        have hwt : ast (mm h p g A a c m, r) 100 (p + 1) (9 + v) (.int t) = some (mm h p g A (up a (9 + v.toNatClampNeg) t) c m, r) := by
          have e := mm_wA h g A r a c m hp (n := 9 + v.toNatClampNeg) (by omega) t
          rw [← e]; congr 1
          show 9 + v = I (9 + v.toNatClampNeg)
          rw [← Il9, ← hv]
        have ed : dTr v t (f, tk, rt, ps, S) = (tk v.toNatClampNeg, (f, up tk v.toNatClampNeg t, rt, ps, S)) := by
          unfold dTr; rw [if_neg c0, if_neg c1, if_neg c2]
        rw [ed]
        refine ⟨g, up a (9 + v.toNatClampNeg) t, tk v.toNatClampNeg, ?_, Or.inr ⟨htk _ (by omega), rfl, rfl, ?_⟩⟩
        · simp only [c169, x169_0, x169_1, x169_2, x169_5, x169_8, x169_9, x169_10, x169_13, x169_14, x169_15, x169_16, x169_17, x169_20, x169_23, x169_26, x169_27, x169_28, x169_31, x169_32, x169_33, x169_34, x169_37, x169_38, x169_41, x169_42, x169_43, x169_46, x169_47, x169_48, x169_51, x169_53, x169_54, x169_55, x169_56, x169_57, x169_58, x169_61, x169_63, x169_64, x169_65, x169_66, x169_67, x169_68, gk_some, pk_some, qk_some, bnd_v, bnd_n, kl_int, kl_ref, kl_null, kl_un, Nat.reduceAdd, if_true, if_false, mm_0, mm_12, mm_13, mm_rv, mm_l0, mm_l1, mm_l3, mm_l4, mm_l5, mm_l6, mm_l7, mm_l8, h155, d0, d1, d2, decide_true, not_false_eq_true, and_self, fit1, fit0, fitb, b2i_t, b2i_f, reduceIte, decide_true, decide_false, ne10, m151_4, h162, hrt, hwt]
        · obtain ⟨⟨s0, s2, s3, s4, s5, s6, s7, s8, _, s10⟩, hT, hZ⟩ := hM
          refine ⟨⟨?_, ?_, ?_, ?_, ?_, ?_, ?_, ?_, ?_, ?_⟩, ⟨?_, hT.2.1, ?_⟩, ?_⟩
          · rw [up_ne _ _ (by omega)]; exact s0
          · rw [up_ne _ _ (by omega)]; exact s2
          · rw [up_ne _ _ (by omega)]; exact s3
          · rw [up_ne _ _ (by omega)]; exact s4
          · rw [up_ne _ _ (by omega)]; exact s5
          · rw [up_ne _ _ (by omega)]; exact s6
          · rw [up_ne _ _ (by omega)]; exact s7
          · rw [up_ne _ _ (by omega)]; exact s8
          · intro k hk
            by_cases e : k = v.toNatClampNeg
            · subst e
              show up a (9 + v.toNatClampNeg) t (9 + v.toNatClampNeg) = up tk v.toNatClampNeg t v.toNatClampNeg
              rw [up_eq, up_eq]
            · show up a (9 + v.toNatClampNeg) t (9 + k) = up tk v.toNatClampNeg t k
              rw [up_ne _ _ (by omega), up_ne _ _ e, s9 k hk]
          · intro k hk; rw [up_ne _ _ (by omega)]; exact s10 k hk
          · rw [up_ne _ _ (by omega)]; exact hT.1
          · intro D s R hP k hk; rw [up_ne _ _ (by omega)]; exact hT.2.2 D s R hP k hk
          · intro i i1 i2; rw [up_ne _ _ (by omega)]; exact hZ i i1 i2
theorem find_num (S : List SL) (v : Int32) : (prs S).find? (numP v) = S.find? (fndP v) := by
  rw [← find_prs (fnd_pr v)]
  have : ∀ l : List SL, (∀ s, s ∈ l → s.2.1 ≠ 1) → l.find? (numP v) = l.find? (fndP v) := by
    intro l hl
    induction l with
    | nil => rfl
    | cons s l ih =>
      have e : numP v s = fndP v s := by simp [numP, fndP, hl s List.mem_cons_self]
      rw [List.find?_cons, List.find?_cons, e, ih (fun t ht => hl t (List.mem_cons_of_mem _ ht))]
  exact this _ (fun s hs => (prs_mem hs).2)
theorem hld_sum {S : List SL} (hf : ∀ s, s ∈ S → fitp 1 (.int (s.2.2 9)) = true) : ∀ z : Int32, (prs S).foldl (fun n s => n + s.2.2 9) z = S.foldl (fun n s => if hldP s = true then n + 1 else n) z := by
  induction S with
  | nil => intro z; rfl
  | cons s S ih =>
    intro z
    have ih' := ih (fun t ht => hf t (List.mem_cons_of_mem _ ht))
    have h9 := hf s List.mem_cons_self
    unfold prs at ih' ⊢
    rw [List.filter_cons, List.foldl_cons]
    by_cases e : s.2.1 = 1
    · rw [if_neg (by simp [e]), ih', if_neg (by simp [hldP, e])]
    · rw [if_pos (by simp [e]), List.foldl_cons, ih']
      by_cases e9 : s.2.2 9 = 0
      · rw [e9, Int32.add_zero, if_neg (by simp [hldP, e9])]
      · have e1 : s.2.2 9 = 1 := by simpa [fitp, e9] using h9
        rw [e1, if_pos (by simp [hldP, e, e1])]
theorem y174 (hp : 32 ≤ p) (w : WS S) (hM : MR a f tk rt (prs S)) (k : Nat) (hk : k = 3 ∨ k = 4) (v x : Int32) (hx : fitp 1 (.int x) = true) (hnn : ¬ (dHo x v (f, tk, rt, ps, S)).1 < 0 ∨ (dHo x v (f, tk, rt, ps, S)).1 = -4 ∨ (dHo x v (f, tk, rt, ps, S)).1 = -3) (hnn2 : ∀ s, S.find? (fndP v) = some s → ¬ s.2.2 9 = x → ¬ hldN (upS S s.1 (s.2.1, up s.2.2 9 x)) < 0) :
    ∃ g' a' y, rcal 174 [.ref p, .int v, .int x] (mm h p g A a c m, r) = some (.inl (some (.int y)), (mm h p g' A a' c m, r)) ∧ outM k (dHo x v (f, tk, rt, ps, S)) (f, tk, rt, ps, S) g g' y a a' := by
  have h157 := n157 h g A r a c m (p := p) hM.2.1 v
  have ht : ∀ w, (w = -4 → thr k w = 1) ∧ (w = -3 → thr k w = 2) := by
    intro w; rcases hk with rfl | rfl
    · exact ⟨fun e => by subst e; rfl, fun e => by subst e; rfl⟩
    · exact ⟨fun e => by subst e; rfl, fun e => by subst e; rfl⟩
  cases e : S.find? (fndP v) with
  | none =>
    rw [fidx_none 0 (by rw [find_num]; exact e)] at h157
    have ed : dHo x v (f, tk, rt, ps, S) = (-4, (f, tk, rt, ps, S)) := by unfold dHo; simp only [e]
    rw [ed]
    refine ⟨up g 9 1, a, -1, ?_, Or.inl ⟨ng4, rfl, by rw [(ht (-4)).1 rfl], rfl, rfl⟩⟩
    simp only [c174, x174_0, x174_1, x174_2, x174_5, x174_6, x174_7, x174_8, x174_11, x174_12, x174_13, x174_16, x174_17, x174_18, x174_21, x174_22, x174_25, x174_27, x174_28, x174_29, x174_30, x174_33, x174_34, x174_35, x174_38, x174_39, x174_40, x174_43, x174_44, x174_47, x174_49, x174_50, x174_51, x174_52, x174_53, x174_56, gk_some, pk_some, qk_some, bnd_v, bnd_n, kl_int, kl_ref, kl_null, kl_un, Nat.reduceAdd, if_true, if_false, mm_0, mm_12, mm_13, mm_rv, mm_l0, mm_l1, mm_l3, mm_l4, mm_l5, mm_l6, mm_l7, mm_l8, h157, n150 h g A r a c m hp]
  | some s =>
    obtain ⟨D, R, hP, hfi⟩ := fidx_some 0 (show (prs S).find? (numP v) = some s by rw [find_num]; exact e)
    rw [hfi, Nat.zero_add] at h157
    have hl6 : D.length < 6 := by have := hM.2.1.2.1; rw [hP] at this; simp at this; omega
    have hne := ne_m1 (show D.length < 2147483648 by omega)
    have hr := nrd h g A r a c m (p := p) hM.2.1 hP
    have hs := prs_mem (show s ∈ prs S by rw [hP]; simp)
    by_cases e2 : s.2.2 9 = x
    · have ed : dHo x v (f, tk, rt, ps, S) = (-3, (f, tk, rt, ps, S)) := by unfold dHo; simp only [e, e2, if_true]
      rw [ed]
      refine ⟨up g 9 2, a, -1, ?_, Or.inl ⟨ng3, rfl, by rw [(ht (-3)).2 rfl], rfl, rfl⟩⟩
      simp only [c174, x174_0, x174_1, x174_2, x174_5, x174_6, x174_7, x174_8, x174_11, x174_12, x174_13, x174_16, x174_17, x174_18, x174_21, x174_22, x174_25, x174_27, x174_28, x174_29, x174_30, x174_33, x174_34, x174_35, x174_38, x174_39, x174_40, x174_43, x174_44, x174_47, x174_49, x174_50, x174_51, x174_52, x174_53, x174_56, gk_some, pk_some, qk_some, bnd_v, bnd_n, kl_int, kl_ref, kl_null, kl_un, Nat.reduceAdd, if_true, if_false, mm_0, mm_12, mm_13, mm_rv, mm_l0, mm_l1, mm_l3, mm_l4, mm_l5, mm_l6, mm_l7, mm_l8, h157, hne, m154, I_1, Ia2, Ia3, Ia4, Ia5, Ia6, Ia7, Ia8, Ia9, Ia10, Ia11, Ia12, Il9, Il16, Il22, Il76, Im9, hr, show 7 < 9 by decide, mt, e2, n150 h g A r a c m hp]
    · have ed : dHo x v (f, tk, rt, ps, S) = (hldN (upS S s.1 (s.2.1, up s.2.2 9 x)), (f, tk, rt, ps, upS S s.1 (s.2.1, up s.2.2 9 x))) := by unfold dHo; simp only [e, e2, if_false]
      have hw := mm_wA h g A r a c m hp (n := 22 + 9 * D.length + 7) (by omega) x
      have hM2 := hM
      rw [hP] at hM2
      have hpr : prs (upS S s.1 (s.2.1, up s.2.2 9 x)) = D ++ (s.1, (s.2.1, up s.2.2 9 x)) :: R := prs_up w hP hs.2
      have hM3 : MR (up a (22 + 9 * D.length + 7) x) f tk rt (D ++ (s.1, (s.2.1, up s.2.2 9 x)) :: R) := by
        refine MR_1 hM2 7 (by decide) _ (by simp [mt, up]) fun i hi hne => ?_
        rcases (by omega : i = 0 ∨ i = 1 ∨ i = 2 ∨ i = 3 ∨ i = 4 ∨ i = 5 ∨ i = 6 ∨ i = 8) with rfl | rfl | rfl | rfl | rfl | rfl | rfl | rfl <;> simp [mt, up, whr, plc, lft]
      have h173 : rcal 173 [.ref p] (mm h p g A (up a (22 + 9 * D.length + 7) x) c m, r) = some (.inl (some (.int (hldN (upS S s.1 (s.2.1, up s.2.2 9 x))))), (mm h p g A (up a (22 + 9 * D.length + 7) x) c m, r)) := by
        have e5 := m173 h (up g 13 (I m)) (ua (ua A 1 (up a (22 + 9 * D.length + 7) x)) 7 c) r (p := p) hM3.2.1
        have w3 := WS_up w s.1 (t := (s.2.1, up s.2.2 9 x)) (w.2.2.1 s hs.1) (by simpa [up] using hx)
        rw [← hpr, hld_sum w3.2.2.2.2] at e5
        exact e5
      rw [ed]
      refine ⟨g, up a (22 + 9 * D.length + 7) x, _, ?_, Or.inr ⟨hnn2 s e e2, rfl, rfl, ?_⟩⟩
      · simp only [c174, x174_0, x174_1, x174_2, x174_5, x174_6, x174_7, x174_8, x174_11, x174_12, x174_13, x174_16, x174_17, x174_18, x174_21, x174_22, x174_25, x174_27, x174_28, x174_29, x174_30, x174_33, x174_34, x174_35, x174_38, x174_39, x174_40, x174_43, x174_44, x174_47, x174_49, x174_50, x174_51, x174_52, x174_53, x174_56, gk_some, pk_some, qk_some, bnd_v, bnd_n, kl_int, kl_ref, kl_null, kl_un, Nat.reduceAdd, if_true, if_false, mm_0, mm_12, mm_13, mm_rv, mm_l0, mm_l1, mm_l3, mm_l4, mm_l5, mm_l6, mm_l7, mm_l8, h157, hne, m154, I_1, Ia2, Ia3, Ia4, Ia5, Ia6, Ia7, Ia8, Ia9, Ia10, Ia11, Ia12, Il9, Il16, Il22, Il76, Im9, hr, show 7 < 9 by decide, mt, e2, hw, h173]
      · show MR _ f tk rt (prs (upS S s.1 (s.2.1, up s.2.2 9 x)))
        rw [hpr]; exact hM3
theorem y177 (hp : 32 ≤ p) (w : WS S) (hM : MR a f tk rt (prs S)) (h5 : f 5 = I (prs S).length) (v : Int32) :
    ∃ g' a' y, rcal 177 [.ref p, .int v] (mm h p g A a c m, r) = some (.inl (some (.int y)), (mm h p g' A a' c m, r)) ∧ outM 5 (dCa v (f, tk, rt, ps, S)) (f, tk, rt, ps, S) g g' y a a' := by
  have h157 := n157 h g A r a c m (p := p) hM.2.1 v
  cases e : S.find? (fndP v) with
  | none =>
    rw [fidx_none 0 (by rw [find_num]; exact e)] at h157
    have ed : dCa v (f, tk, rt, ps, S) = (-4, (f, tk, rt, ps, S)) := by unfold dCa; simp only [e]
    rw [ed]
    refine ⟨up g 9 1, a, -1, ?_, Or.inl ⟨ng4, rfl, rfl, rfl, rfl⟩⟩
    simp only [c177, x177_0, x177_1, x177_2, x177_5, x177_6, x177_7, x177_8, x177_11, x177_12, x177_13, x177_16, x177_17, x177_18, x177_21, x177_22, x177_25, x177_26, x177_27, x177_28, x177_29, x177_32, x177_33, x177_34, x177_37, x177_38, x177_39, x177_40, x177_43, x177_44, x177_47, x177_48, x177_49, gk_some, pk_some, qk_some, bnd_v, bnd_n, kl_int, kl_ref, kl_null, kl_un, Nat.reduceAdd, if_true, if_false, mm_0, mm_12, mm_13, mm_rv, mm_l0, mm_l1, mm_l3, mm_l4, mm_l5, mm_l6, mm_l7, mm_l8, h157, n150 h g A r a c m hp]
  | some s =>
    obtain ⟨D, R, hP, hfi⟩ := fidx_some 0 (show (prs S).find? (numP v) = some s by rw [find_num]; exact e)
    rw [hfi, Nat.zero_add] at h157
    have hl6 : D.length < 6 := by have := hM.2.1.2.1; rw [hP] at this; simp at this; omega
    have hne := ne_m1 (show D.length < 2147483648 by omega)
    have hr := nrd h g A r a c m (p := p) hM.2.1 hP
    have hwh : (whr s.2 = 2) = (s.2.1 = 4) := whr_2 s.2
    by_cases e2 : s.2.1 = 4
    · have ed : dCa v (f, tk, rt, ps, S) = (-3, (f, tk, rt, ps, S)) := by unfold dCa; simp only [e, e2, if_true]
      rw [ed]
      refine ⟨up g 9 2, a, -1, ?_, Or.inl ⟨ng3, rfl, rfl, rfl, rfl⟩⟩
      simp only [c177, x177_0, x177_1, x177_2, x177_5, x177_6, x177_7, x177_8, x177_11, x177_12, x177_13, x177_16, x177_17, x177_18, x177_21, x177_22, x177_25, x177_26, x177_27, x177_28, x177_29, x177_32, x177_33, x177_34, x177_37, x177_38, x177_39, x177_40, x177_43, x177_44, x177_47, x177_48, x177_49, gk_some, pk_some, qk_some, bnd_v, bnd_n, kl_int, kl_ref, kl_null, kl_un, Nat.reduceAdd, if_true, if_false, mm_0, mm_12, mm_13, mm_rv, mm_l0, mm_l1, mm_l3, mm_l4, mm_l5, mm_l6, mm_l7, mm_l8, h157, hne, m154, I_1, Ia2, Ia3, Ia4, Ia5, Ia6, Ia7, Ia8, Ia9, Ia10, Ia11, Ia12, Il9, Il16, Il22, Il76, Im9, hr, show 4 < 9 by decide, mt, hwh, e2, n150 h g A r a c m hp]
    · have ed : dCa v (f, tk, rt, ps, S) = (f 5 - 1, (up f 5 (f 5 - 1), tk, rt, ps, remS S s.1)) := by unfold dCa; simp only [e, e2, if_false]
      have h166 := n166 h g A r a c m hp hl6
      have hM2 := hM
      rw [hP] at hM2
      have hM3 := MR_del (f' := up f 5 (f 5 - 1)) hM2 (fun i hi => up_ne _ _ hi)
      have hpr := prs_rem w hP
      have h51 : f 5 - 1 = I (D ++ R).length := by
        rw [h5, hP, I_sub1 (by simp; omega)]; simp
      rw [ed]
      refine ⟨g, lvF a D.length, f 5 - 1, ?_, Or.inr ⟨?_, rfl, rfl, ?_⟩⟩
      · have h1 : lvF a D.length 1 = f 5 - 1 := by rw [h51]; exact hM3.2.1.1
        simp only [c177, x177_0, x177_1, x177_2, x177_5, x177_6, x177_7, x177_8, x177_11, x177_12, x177_13, x177_16, x177_17, x177_18, x177_21, x177_22, x177_25, x177_26, x177_27, x177_28, x177_29, x177_32, x177_33, x177_34, x177_37, x177_38, x177_39, x177_40, x177_43, x177_44, x177_47, x177_48, x177_49, gk_some, pk_some, qk_some, bnd_v, bnd_n, kl_int, kl_ref, kl_null, kl_un, Nat.reduceAdd, if_true, if_false, mm_0, mm_12, mm_13, mm_rv, mm_l0, mm_l1, mm_l3, mm_l4, mm_l5, mm_l6, mm_l7, mm_l8, h157, hne, m154, I_1, Ia2, Ia3, Ia4, Ia5, Ia6, Ia7, Ia8, Ia9, Ia10, Ia11, Ia12, Il9, Il16, Il22, Il76, Im9, hr, show 4 < 9 by decide, mt, hwh, e2, h166, h1]
      · have := hM3.2.1.2.1
        show ¬ f 5 - 1 < 0
        rw [h51]; exact I_nn (by omega)
      · show MR _ (up f 5 (f 5 - 1)) tk rt (prs (remS S s.1))
        rw [hpr]; exact hM3
end MCMD
