/-! the reference lets trains leave -/
def sumB (s : SL) (k : Nat) : List SL → Nat → Nat
  | [], _ => 0
  | o :: R, i => (if o.2.2 4 < s.2.2 4 ∨ (o.2.2 4 = s.2.2 4 ∧ i < k) then 1 else 0) + sumB s k R (i + 1)
/-- how many leave before s -/
def rkN (P : List SL) (s : SL) : Nat := P.countP fun o => lvB o.2 s.2
/-- the trains stand in the order of their numbers -/
def SRT (P : List SL) : Prop := ∀ D s R, P = D ++ s :: R → (∀ o, o ∈ D → o.2.2 1 < s.2.2 1) ∧ ∀ o, o ∈ R → s.2.2 1 < o.2.2 1
/-- departures can be subtracted -/
def DPK (P : List SL) : Prop := ∀ s, s ∈ P → ∀ o, o ∈ P → (o.2.2 4 - s.2.2 4 < 0) = (o.2.2 4 < s.2.2 4)
theorem sub_z (x y : Int32) : (x - y = 0) = (x = y) := by
  refine propext ⟨fun e => ?_, fun e => by rw [e]; exact Int32.sub_self y⟩
  have : x = (x - y) + y := by grind
  rw [e, Int32.zero_add] at this
  exact this
theorem nlt_self (x : Int32) : ¬ x < x := by rw [Int32.lt_iff_toInt_lt]; omega
theorem sumB_rk {P D R : List SL} {s : SL} (hs : SRT P) (hP : P = D ++ s :: R) : sumB s D.length P 0 = rkN P s := by
  obtain ⟨h1, h2⟩ := hs D s R hP
  have b1 : ∀ (l : List SL) (i : Nat), (∀ o, o ∈ l → o.2.2 1 < s.2.2 1) → i + l.length ≤ D.length → ∀ X, sumB s D.length (l ++ X) i = l.countP (fun o => lvB o.2 s.2) + sumB s D.length X (i + l.length) := by
    intro l
    induction l with
    | nil => intro i _ _ X; simp
    | cons o l ih =>
      intro i ho hi X
      simp only [List.length_cons] at hi
      rw [List.cons_append, sumB, ih (i + 1) (fun q hq => ho q (List.mem_cons_of_mem _ hq)) (by omega) X, List.countP_cons]
      have e : (if o.2.2 4 < s.2.2 4 ∨ (o.2.2 4 = s.2.2 4 ∧ i < D.length) then 1 else 0) = (if lvB o.2 s.2 = true then 1 else 0) := by
        have := ho o List.mem_cons_self
        unfold lvB
        by_cases c : o.2.2 4 = s.2.2 4
        · simp [c, this, show i < D.length by omega, nlt_self]
        · simp [c]
      rw [e, List.length_cons, show i + 1 + l.length = i + (l.length + 1) by omega]; omega
  have b2 : ∀ (l : List SL) (i : Nat), (∀ o, o ∈ l → s.2.2 1 < o.2.2 1) → D.length ≤ i → sumB s D.length l i = l.countP (fun o => lvB o.2 s.2) := by
    intro l
    induction l with
    | nil => intro i _ _; rfl
    | cons o l ih =>
      intro i ho hi
      rw [sumB, ih (i + 1) (fun q hq => ho q (List.mem_cons_of_mem _ hq)) (by omega), List.countP_cons]
      have e : (if o.2.2 4 < s.2.2 4 ∨ (o.2.2 4 = s.2.2 4 ∧ i < D.length) then 1 else 0) = (if lvB o.2 s.2 = true then 1 else 0) := by
        have h := ho o List.mem_cons_self
        have h' : ¬ o.2.2 1 < s.2.2 1 := by rw [Int32.lt_iff_toInt_lt] at h ⊢; omega
        unfold lvB
        by_cases c : o.2.2 4 = s.2.2 4
        · simp [c, h', show ¬ i < D.length by omega, nlt_self]
        · simp [c]
      rw [e]; omega
  rw [hP, b1 D 0 h1 (by omega), sumB]
  rw [b2 R _ h2 (by omega)]
  have e : ¬ (s.2.2 4 < s.2.2 4 ∨ (s.2.2 4 = s.2.2 4 ∧ 0 + D.length < D.length)) := fun q => q.elim (nlt_self _) (fun q => by omega)
  rw [if_neg e, rkN, List.countP_append, List.countP_cons]
  have e2 : lvB s.2 s.2 = false := by unfold lvB; simp [nlt_self]
  rw [e2]; simp
theorem MR_set {a a' f tk rt : Nat → Int32} {D R : List SL} {s : SL} (hM : MR a f tk rt (D ++ s :: R)) (t : TR) (ho : ∀ i, (i < 22 + 9 * D.length ∨ 22 + 9 * D.length + 9 ≤ i) → a' i = a i) (hn : ∀ c, c < 9 → a' (22 + 9 * D.length + c) = mt t c) : MR a' f tk rt (D ++ (s.1, t) :: R) := by
  obtain ⟨hS, hT, hZ⟩ := hM
  refine ⟨S_hi hS fun i hi _ => ho i (by omega), TR_set t hT (ho 1 (by omega)) ho hn, fun i h1 h2 => ?_⟩
  simp only [List.length_append, List.length_cons] at h1
  rw [ho i (by omega)]
  exact hZ i (by simpa using h1) h2
section MLV
variable (h : PH) {p : Nat} (g : Nat → Int32) (A : Nat → Nat → Int32) (r : Nat × Nat × Nat) (a c : Nat → Int32) (m : Nat)
theorem l185b {P D R : List SL} {s : SL} (hT : TRel a P) (hP : P = D ++ s :: R) (hd : DPK P) (v : Value) (X : Option Rs) : ∀ (R' D' : List SL) (n : Nat) (z : Value), P = D' ++ R' →
    (∀ z', rn 185 84 [.ref p, v, .int (I D.length), .int (I (n + sumB s D.length R' D'.length)), .int (I P.length), z'] [] (mm h p g A a c m, r) = X) →
    rn 185 17 [.ref p, v, .int (I D.length), .int (I n), .int (I D'.length), z] [] (mm h p g A a c m, r) = X := by
  intro R'
  have hs : s ∈ P := by rw [hP]; simp
  have hr := nrd h g A r a c m (p := p) hT hP
  have hl : D.length < 6 := by have := hT.2.1; rw [hP] at this; simp at this; omega
  induction R' with
  | nil =>
    intro D' n z hP' hX
    have hl' : D'.length = P.length := by rw [hP']; simp
    rw [x185_17]
    simp only [x185_0, x185_1, x185_3, x185_4, x185_7, x185_8, x185_9, x185_12, x185_13, x185_14, x185_15, x185_19, x185_20, x185_23, x185_24, x185_25, x185_28, x185_29, x185_32, x185_34, x185_37, x185_38, x185_39, x185_40, x185_41, x185_44, x185_45, x185_48, x185_49, x185_50, x185_51, x185_52, x185_54, x185_55, x185_57, x185_60, x185_62, x185_65, x185_67, x185_68, x185_71, x185_72, x185_76, x185_77, x185_78, x185_81, x185_75, x185_85, x185_86, x185_89, x185_90, x185_91, x185_94, x185_97, x185_98, gk_some, pk_some, qk_some, bnd_v, bnd_n, kl_int, kl_ref, kl_null, kl_un, Nat.reduceAdd, if_true, if_false, mm_0, mm_12, mm_13, mm_rv, mm_l0, mm_l1, mm_l3, mm_l4, mm_l5, mm_l6, mm_l7, mm_l8, hT.1, nlt_end hP']
    rw [hl']
    exact hX z
  | cons o R' ih =>
    intro D' n z hP' hX
    have ho : o ∈ P := by rw [hP']; simp
    have hr' := nrd h g A r a c m (p := p) hT hP'
    have hl' : D'.length < 6 := by have := hT.2.1; rw [hP'] at this; simp at this; omega
    have hlt := mlt (A := fun _ => a) hT hP'
    have hd' := hd s hs o ho
    have ih' := fun n z hX => ih (D' ++ [o]) n z (sub_ hP') hX
    simp only [List.length_append, List.length_singleton] at ih'
    have hii : (I D'.length < I D.length) = (D'.length < D.length) := propext (I_lt (by omega) (by omega))
    rw [x185_17]
    simp only [x185_0, x185_1, x185_3, x185_4, x185_7, x185_8, x185_9, x185_12, x185_13, x185_14, x185_15, x185_19, x185_20, x185_23, x185_24, x185_25, x185_28, x185_29, x185_32, x185_34, x185_37, x185_38, x185_39, x185_40, x185_41, x185_44, x185_45, x185_48, x185_49, x185_50, x185_51, x185_52, x185_54, x185_55, x185_57, x185_60, x185_62, x185_65, x185_67, x185_68, x185_71, x185_72, x185_76, x185_77, x185_78, x185_81, x185_75, x185_85, x185_86, x185_89, x185_90, x185_91, x185_94, x185_97, x185_98, gk_some, pk_some, qk_some, bnd_v, bnd_n, kl_int, kl_ref, kl_null, kl_un, Nat.reduceAdd, if_true, if_false, mm_0, mm_12, mm_13, mm_rv, mm_l0, mm_l1, mm_l3, mm_l4, mm_l5, mm_l6, mm_l7, mm_l8, hT.1, hlt, m154, I_1, Ia2, Ia3, Ia4, Ia5, Ia6, Ia7, Ia8, Ia9, Ia10, Ia11, Ia12, Il9, Il16, Il22, Il76, Im9, hr, hr', show 3 < 9 by decide, mt, hd', sub_z, hii]
    rw [sumB] at hX
    by_cases c1 : o.2.2 4 < s.2.2 4
    · rw [if_pos (Or.inl c1)] at hX
      simp only [c1, fit1, fit0, fitb, b2i_t, b2i_f, reduceIte, decide_true, decide_false, x185_0, x185_1, x185_3, x185_4, x185_7, x185_8, x185_9, x185_12, x185_13, x185_14, x185_15, x185_19, x185_20, x185_23, x185_24, x185_25, x185_28, x185_29, x185_32, x185_34, x185_37, x185_38, x185_39, x185_40, x185_41, x185_44, x185_45, x185_48, x185_49, x185_50, x185_51, x185_52, x185_54, x185_55, x185_57, x185_60, x185_62, x185_65, x185_67, x185_68, x185_71, x185_72, x185_76, x185_77, x185_78, x185_81, x185_75, x185_85, x185_86, x185_89, x185_90, x185_91, x185_94, x185_97, x185_98, gk_some, pk_some, qk_some, bnd_v, bnd_n, kl_int, kl_ref, kl_null, kl_un, Nat.reduceAdd, if_true, if_false, I_1, Ia2, Ia3, Ia4, Ia5, Ia6, Ia7, Ia8, Ia9, Ia10, Ia11, Ia12, Il9, Il16, Il22, Il76, Im9]
      exact ih' (n + 1) _ (fun z' => by rw [Nat.add_assoc]; exact hX z')
    · by_cases c2 : o.2.2 4 = s.2.2 4
      · by_cases c3 : D'.length < D.length
        · rw [if_pos (Or.inr ⟨c2, c3⟩)] at hX
          simp only [c1, c2, c3, fit1, fit0, fitb, b2i_t, b2i_f, reduceIte, decide_true, decide_false, x185_0, x185_1, x185_3, x185_4, x185_7, x185_8, x185_9, x185_12, x185_13, x185_14, x185_15, x185_19, x185_20, x185_23, x185_24, x185_25, x185_28, x185_29, x185_32, x185_34, x185_37, x185_38, x185_39, x185_40, x185_41, x185_44, x185_45, x185_48, x185_49, x185_50, x185_51, x185_52, x185_54, x185_55, x185_57, x185_60, x185_62, x185_65, x185_67, x185_68, x185_71, x185_72, x185_76, x185_77, x185_78, x185_81, x185_75, x185_85, x185_86, x185_89, x185_90, x185_91, x185_94, x185_97, x185_98, gk_some, pk_some, qk_some, bnd_v, bnd_n, kl_int, kl_ref, kl_null, kl_un, Nat.reduceAdd, if_true, if_false, I_1, Ia2, Ia3, Ia4, Ia5, Ia6, Ia7, Ia8, Ia9, Ia10, Ia11, Ia12, Il9, Il16, Il22, Il76, Im9, nlt_self]
          exact ih' (n + 1) _ (fun z' => by rw [Nat.add_assoc]; exact hX z')
        · rw [if_neg (fun q => q.elim c1 (fun q => c3 q.2)), Nat.zero_add] at hX
          simp only [c1, c2, c3, fit1, fit0, fitb, b2i_t, b2i_f, reduceIte, decide_true, decide_false, x185_0, x185_1, x185_3, x185_4, x185_7, x185_8, x185_9, x185_12, x185_13, x185_14, x185_15, x185_19, x185_20, x185_23, x185_24, x185_25, x185_28, x185_29, x185_32, x185_34, x185_37, x185_38, x185_39, x185_40, x185_41, x185_44, x185_45, x185_48, x185_49, x185_50, x185_51, x185_52, x185_54, x185_55, x185_57, x185_60, x185_62, x185_65, x185_67, x185_68, x185_71, x185_72, x185_76, x185_77, x185_78, x185_81, x185_75, x185_85, x185_86, x185_89, x185_90, x185_91, x185_94, x185_97, x185_98, gk_some, pk_some, qk_some, bnd_v, bnd_n, kl_int, kl_ref, kl_null, kl_un, Nat.reduceAdd, if_true, if_false, I_1, Ia2, Ia3, Ia4, Ia5, Ia6, Ia7, Ia8, Ia9, Ia10, Ia11, Ia12, Il9, Il16, Il22, Il76, Im9, nlt_self, Int32.add_zero]
          exact ih' n _ hX
      · rw [if_neg (fun q => q.elim c1 (fun q => c2 q.1)), Nat.zero_add] at hX
        simp only [c1, c2, fit1, fit0, fitb, b2i_t, b2i_f, reduceIte, decide_true, decide_false, x185_0, x185_1, x185_3, x185_4, x185_7, x185_8, x185_9, x185_12, x185_13, x185_14, x185_15, x185_19, x185_20, x185_23, x185_24, x185_25, x185_28, x185_29, x185_32, x185_34, x185_37, x185_38, x185_39, x185_40, x185_41, x185_44, x185_45, x185_48, x185_49, x185_50, x185_51, x185_52, x185_54, x185_55, x185_57, x185_60, x185_62, x185_65, x185_67, x185_68, x185_71, x185_72, x185_76, x185_77, x185_78, x185_81, x185_75, x185_85, x185_86, x185_89, x185_90, x185_91, x185_94, x185_97, x185_98, gk_some, pk_some, qk_some, bnd_v, bnd_n, kl_int, kl_ref, kl_null, kl_un, Nat.reduceAdd, if_true, if_false, I_1, Ia2, Ia3, Ia4, Ia5, Ia6, Ia7, Ia8, Ia9, Ia10, Ia11, Ia12, Il9, Il16, Il22, Il76, Im9, Int32.add_zero]
        exact ih' n _ hX
theorem sumB_le (s : SL) (k : Nat) : ∀ (P : List SL) (i : Nat), sumB s k P i ≤ P.length
  | [], _ => Nat.le_refl _
  | o :: P, i => by
    rw [sumB, List.length_cons]
    have := sumB_le s k P (i + 1)
    split <;> omega
theorem l185 {P : List SL} (hT : TRel a P) (hd : DPK P) (hs : SRT P) {rk : Nat} (h6 : rk ≤ 6) : ∀ (R D : List SL) (z1 z2 z3 : Value), P = D ++ R → rn 185 2 [.ref p, .int (I rk), .int (I D.length), z1, z2, z3] [] (mm h p g A a c m, r) = some (.inl (some (.int (fidx (fun s => decide (rkN P s = rk)) R D.length))), (mm h p g A a c m, r)) := by
  intro R
  induction R with
  | nil =>
    intro D z1 z2 z3 hP
    rw [x185_2]
    simp only [x185_0, x185_1, x185_3, x185_4, x185_7, x185_8, x185_9, x185_12, x185_13, x185_14, x185_15, x185_19, x185_20, x185_23, x185_24, x185_25, x185_28, x185_29, x185_32, x185_34, x185_37, x185_38, x185_39, x185_40, x185_41, x185_44, x185_45, x185_48, x185_49, x185_50, x185_51, x185_52, x185_54, x185_55, x185_57, x185_60, x185_62, x185_65, x185_67, x185_68, x185_71, x185_72, x185_76, x185_77, x185_78, x185_81, x185_75, x185_84, x185_85, x185_86, x185_89, x185_90, x185_91, x185_94, x185_97, x185_98, gk_some, pk_some, qk_some, bnd_v, bnd_n, kl_int, kl_ref, kl_null, kl_un, Nat.reduceAdd, if_true, if_false, mm_0, mm_12, mm_13, mm_rv, mm_l0, mm_l1, mm_l3, mm_l4, mm_l5, mm_l6, mm_l7, mm_l8, hT.1, nlt_end hP, fidx]
  | cons s R ih =>
    intro D z1 z2 z3 hP
    have hlt := mlt (A := fun _ => a) hT hP
    have ih' := fun z1 z2 z3 => ih (D ++ [s]) z1 z2 z3 (sub_ hP)
    simp only [List.length_append, List.length_singleton] at ih'
    rw [x185_2]
    simp only [x185_0, x185_1, x185_3, x185_4, x185_7, x185_8, x185_9, x185_12, x185_13, x185_14, x185_15, x185_19, x185_20, x185_23, x185_24, x185_25, x185_28, x185_29, x185_32, x185_34, x185_37, x185_38, x185_39, x185_40, x185_41, x185_44, x185_45, x185_48, x185_49, x185_50, x185_51, x185_52, x185_54, x185_55, x185_57, x185_60, x185_62, x185_65, x185_67, x185_68, x185_71, x185_72, x185_76, x185_77, x185_78, x185_81, x185_75, x185_85, x185_86, x185_89, x185_90, x185_91, x185_94, x185_97, x185_98, gk_some, pk_some, qk_some, bnd_v, bnd_n, kl_int, kl_ref, kl_null, kl_un, Nat.reduceAdd, if_true, if_false, mm_0, mm_12, mm_13, mm_rv, mm_l0, mm_l1, mm_l3, mm_l4, mm_l5, mm_l6, mm_l7, mm_l8, hT.1, hlt]
    refine l185b h g A r a c m hT hP hd (.int (I rk)) _ P [] 0 z3 rfl fun z' => ?_
    rw [Nat.zero_add, List.length_nil, sumB_rk hs hP, x185_84]
    have hle : rkN P s ≤ 6 := by rw [← sumB_rk hs hP]; have := sumB_le s D.length P 0; have := hT.2.1; omega
    have hii : (I (rkN P s) = I rk) = (rkN P s = rk) := propext (I_inj (by omega) (by omega))
    simp only [x185_0, x185_1, x185_3, x185_4, x185_7, x185_8, x185_9, x185_12, x185_13, x185_14, x185_15, x185_19, x185_20, x185_23, x185_24, x185_25, x185_28, x185_29, x185_32, x185_34, x185_37, x185_38, x185_39, x185_40, x185_41, x185_44, x185_45, x185_48, x185_49, x185_50, x185_51, x185_52, x185_54, x185_55, x185_57, x185_60, x185_62, x185_65, x185_67, x185_68, x185_71, x185_72, x185_76, x185_77, x185_78, x185_81, x185_75, x185_85, x185_86, x185_89, x185_90, x185_91, x185_94, x185_97, x185_98, gk_some, pk_some, qk_some, bnd_v, bnd_n, kl_int, kl_ref, kl_null, kl_un, Nat.reduceAdd, if_true, if_false, hii, fidx]
    by_cases e : rkN P s = rk
    · simp only [e, fit1, fit0, fitb, b2i_t, b2i_f, reduceIte, decide_true, decide_false]
    · simp only [e, fit1, fit0, fitb, b2i_t, b2i_f, reduceIte, decide_true, decide_false, Bool.false_eq_true, I_1, Ia2, Ia3, Ia4, Ia5, Ia6, Ia7, Ia8, Ia9, Ia10, Ia11, Ia12, Il9, Il16, Il22, Il76, Im9, ih']
theorem n185 {P : List SL} (hT : TRel a P) (hd : DPK P) (hs : SRT P) {rk : Nat} (h6 : rk ≤ 6) : rcal 185 [.ref p, .int (I rk)] (mm h p g A a c m, r) = some (.inl (some (.int (fidx (fun s => decide (rkN P s = rk)) P 0))), (mm h p g A a c m, r)) := by
  have e := fun z1 z2 z3 => l185 h g A r a c m (p := p) hT hd hs h6 P [] z1 z2 z3 rfl
  rw [List.length_nil, show I 0 = 0 from rfl] at e
  simp only [c185, x185_0, x185_1, x185_3, x185_4, x185_7, x185_8, x185_9, x185_12, x185_13, x185_14, x185_15, x185_17, x185_19, x185_20, x185_23, x185_24, x185_25, x185_28, x185_29, x185_32, x185_34, x185_37, x185_38, x185_39, x185_40, x185_41, x185_44, x185_45, x185_48, x185_49, x185_50, x185_51, x185_52, x185_54, x185_55, x185_57, x185_60, x185_62, x185_65, x185_67, x185_68, x185_71, x185_72, x185_76, x185_77, x185_78, x185_81, x185_75, x185_84, x185_85, x185_86, x185_89, x185_90, x185_91, x185_94, x185_97, x185_98, gk_some, pk_some, qk_some, bnd_v, bnd_n, kl_int, kl_ref, kl_null, kl_un, Nat.reduceAdd, if_true, if_false, e]
/-- where the reference's train would go -/
def tryM (t : TR) : Prop := (∃ n, n < 7 ∧ t.2 6 + stp_ t = I n) ∧ (∃ k, k < 6 ∧ imin (t.2 6 + stp_ t) (t.2 6) = I k) ∧ imin (t.2 6 + stp_ t) (t.2 6) = (if t.2 2 < t.2 3 then t.2 6 else t.2 6 - 1)
variable (f tk rt : Nat → Int32)
theorem n184 (hp : 32 ≤ p) {S D R : List SL} {s : SL} (w : WS S) (ka : ahdK (prs S)) (hM : MR a f tk rt (prs S)) (hP : prs S = D ++ s :: R) (h3 : s.2.1 = 3) (k : tryM s.2) :
    ∃ a', rcal 184 [.ref p, .int (I D.length)] (mm h p g A a c m, r) = some (.inl none, (mm h p g A a' c m, r)) ∧ MR a' f tk rt (prs (try1 f tk rt S s.1)) := by
  obtain ⟨⟨n, n7, k1⟩, ⟨x, x6, k2⟩, k3⟩ := k
  have hsS := (prs_mem (show s ∈ prs S by rw [hP]; simp)).1
  obtain ⟨D2, R2, h2⟩ := mem_split hsS
  have ht := tr_mid w.2.1 h2
  have hr := nrd h g A r a c m (p := p) hM.2.1 hP
  have hl6 : D.length < 6 := by have := hM.2.1.2.1; rw [hP] at this; simp at this; omega
  have h158 := n158 h g A r a c m (p := p) hM.2.1 hP
  have h160 := n160 h g A r a c m (p := p) hM.2.1 (imin (s.2.2 6 + stp_ s.2) (s.2.2 6))
  have h163 := n163 h g A r a c m (p := p) hM.2.1 ka n7
  rw [hM.1.2.2.2.2.2.2.2.2.1 n n7] at h163
  have hfr : freN tk S (s.2.2 6 + stp_ s.2) = tk n - I ((prs S).countP (occP (I n))) := by rw [k1, freN_prs, I_nat (by omega)]
  rw [← hfr, ← k1] at h163
  have hM2 := hM
  rw [hP] at hM2
  have hrun := mm_rA h g A r a c m (p := p) (n := 16 + x) (by omega)
  have hrx := hM.1.2.2.2.2.2.2.2.2.2 x x6
  have hpc : plc s.2 = s.2.2 6 := by simp [plc, h3]
  have hwy : wayT s.2 = stp_ s.2 := rfl
  -- the two ways it can end
  have stay : ∃ a', rn 184 121 [.ref p, .int (I D.length), .int (I (22 + 9 * D.length)), .int (imin (s.2.2 6 + stp_ s.2) (s.2.2 6)), .int (s.2.2 6 + stp_ s.2)] [] (mm h p g A a c m, r) = some (.inl none, (mm h p g A a' c m, r)) ∧ MR a' f tk rt (prs (upS S s.1 (s.2.1, up s.2.2 10 (s.2.2 10 + 1)))) := by
    refine ⟨up a (22 + 9 * D.length + 8) (s.2.2 10 + 1), ?_, ?_⟩
    · have hw := mm_wA h g A r a c m hp (n := 22 + 9 * D.length + 8) (by omega) (s.2.2 10 + 1)
      simp only [x184_0, x184_1, x184_4, x184_5, x184_6, x184_7, x184_10, x184_13, x184_14, x184_17, x184_18, x184_19, x184_20, x184_21, x184_34, x184_35, x184_36, x184_39, x184_40, x184_41, x184_42, x184_43, x184_44, x184_45, x184_48, x184_49, x184_51, x184_52, x184_53, x184_56, x184_57, x184_60, x184_62, x184_63, x184_66, x184_67, x184_68, x184_69, x184_70, x184_73, x184_74, x184_76, x184_79, x184_82, x184_83, x184_86, x184_87, x184_88, x184_89, x184_90, x184_91, x184_92, x184_95, x184_96, x184_97, x184_98, x184_99, x184_100, x184_101, x184_104, x184_105, x184_107, x184_108, x184_109, x184_112, x184_114, x184_115, x184_116, x184_117, x184_118, x184_134, x184_121, x184_122, x184_125, x184_126, x184_128, x184_129, x184_130, x184_131, x184_132, x184_133, x184_24, x184_25, x184_28, x184_29, x184_30, x184_31, x184_32, x184_33, gk_some, pk_some, qk_some, bnd_v, bnd_n, kl_int, kl_ref, kl_null, kl_un, Nat.reduceAdd, if_true, if_false, mm_0, mm_12, mm_13, mm_rv, mm_l0, mm_l1, mm_l3, mm_l4, mm_l5, mm_l6, mm_l7, mm_l8, I_1, Ia2, Ia3, Ia4, Ia5, Ia6, Ia7, Ia8, Ia9, Ia10, Ia11, Ia12, Il9, Il16, Il22, Il76, Im9, hr, show 8 < 9 by decide, mt, hw]
    · rw [prs_up w hP (by rw [h3]; decide)]
      refine MR_1 hM2 8 (by decide) _ (by simp [mt, up]) fun i hi hne => ?_
      rcases (by omega : i = 0 ∨ i = 1 ∨ i = 2 ∨ i = 3 ∨ i = 4 ∨ i = 5 ∨ i = 6 ∨ i = 7) with rfl | rfl | rfl | rfl | rfl | rfl | rfl | rfl <;> simp [mt, up, whr, plc, lft]
  have leave : ∃ a', rn 184 82 [.ref p, .int (I D.length), .int (I (22 + 9 * D.length)), .int (imin (s.2.2 6 + stp_ s.2) (s.2.2 6)), .int (s.2.2 6 + stp_ s.2)] [] (mm h p g A a c m, r) = some (.inl none, (mm h p g A a' c m, r)) ∧ MR a' f tk rt (prs (upS S s.1 (4, up (up (up s.2.2 7 (imin (s.2.2 6 + stp_ s.2) (s.2.2 6))) 6 (s.2.2 6 + stp_ s.2)) 8 (rt (imin (s.2.2 6 + stp_ s.2) (s.2.2 6)).toNatClampNeg)))) := by
    refine ⟨up (up (up a (22 + 9 * D.length + 4) 2) (22 + 9 * D.length + 5) (imin (s.2.2 6 + stp_ s.2) (s.2.2 6))) (22 + 9 * D.length + 6) (rt x), ?_, ?_⟩
    · have w1 := mm_wA h g A r a c m hp (n := 22 + 9 * D.length + 4) (by omega) 2
      have w2 := mm_wA h g A r (up a (22 + 9 * D.length + 4) 2) c m hp (n := 22 + 9 * D.length + 5) (by omega) (imin (s.2.2 6 + stp_ s.2) (s.2.2 6))
      have w3 := mm_wA h g A r (up (up a (22 + 9 * D.length + 4) 2) (22 + 9 * D.length + 5) (imin (s.2.2 6 + stp_ s.2) (s.2.2 6))) c m hp (n := 22 + 9 * D.length + 6) (by omega) (rt x)
      have hrun2 := mm_rA h g A r (up (up a (22 + 9 * D.length + 4) 2) (22 + 9 * D.length + 5) (imin (s.2.2 6 + stp_ s.2) (s.2.2 6))) c m (p := p) (n := 16 + x) (by omega)
      rw [up_ne _ _ (by omega), up_ne _ _ (by omega), hrx] at hrun2
      rw [k2] at w2 w3 hrun2 ⊢
      simp only [x184_0, x184_1, x184_4, x184_5, x184_6, x184_7, x184_10, x184_13, x184_14, x184_17, x184_18, x184_19, x184_20, x184_21, x184_34, x184_35, x184_36, x184_39, x184_40, x184_41, x184_42, x184_43, x184_44, x184_45, x184_48, x184_49, x184_51, x184_52, x184_53, x184_56, x184_57, x184_60, x184_62, x184_63, x184_66, x184_67, x184_68, x184_69, x184_70, x184_73, x184_74, x184_76, x184_79, x184_82, x184_83, x184_86, x184_87, x184_88, x184_89, x184_90, x184_91, x184_92, x184_95, x184_96, x184_97, x184_98, x184_99, x184_100, x184_101, x184_104, x184_105, x184_107, x184_108, x184_109, x184_112, x184_114, x184_115, x184_116, x184_117, x184_118, x184_134, x184_121, x184_122, x184_125, x184_126, x184_128, x184_129, x184_130, x184_131, x184_132, x184_133, x184_24, x184_25, x184_28, x184_29, x184_30, x184_31, x184_32, x184_33, gk_some, pk_some, qk_some, bnd_v, bnd_n, kl_int, kl_ref, kl_null, kl_un, Nat.reduceAdd, if_true, if_false, mm_0, mm_12, mm_13, mm_rv, mm_l0, mm_l1, mm_l3, mm_l4, mm_l5, mm_l6, mm_l7, mm_l8, I_1, Ia2, Ia3, Ia4, Ia5, Ia6, Ia7, Ia8, Ia9, Ia10, Ia11, Ia12, Il9, Il16, Il22, Il76, Im9, w1, w2, w3, hrun2]
    · rw [prs_up w hP (by show ¬ 4 = 1; decide), k2, I_nat (by omega)]
      refine MR_set hM2 _ (fun i hi => by rw [up_ne _ _ (by omega), up_ne _ _ (by omega), up_ne _ _ (by omega)]) fun i hi => ?_
      have base := fun (q : ¬ i = 4 ∧ ¬ i = 5 ∧ ¬ i = 6) => (show up (up (up a (22 + 9 * D.length + 4) 2) (22 + 9 * D.length + 5) (I x)) (22 + 9 * D.length + 6) (rt x) (22 + 9 * D.length + i) = mt s.2 i by
        rw [up_ne _ _ (by omega), up_ne _ _ (by omega), up_ne _ _ (by omega)]
        exact hM2.2.1.2.2 D s R rfl i hi)
      rcases (by omega : i = 0 ∨ i = 1 ∨ i = 2 ∨ i = 3 ∨ i = 4 ∨ i = 5 ∨ i = 6 ∨ i = 7 ∨ i = 8) with rfl | rfl | rfl | rfl | rfl | rfl | rfl | rfl | rfl
      · rw [base (by decide)]; simp [mt, up]
      · rw [base (by decide)]; simp [mt, up]
      · rw [base (by decide)]; simp [mt, up]
      · rw [base (by decide)]; simp [mt, up]
      · rw [up_ne _ _ (by omega), up_ne _ _ (by omega), up_eq]; simp [mt, whr]
      · rw [up_ne _ _ (by omega), up_eq]; simp [mt, plc, up]
      · rw [up_eq]; simp [mt, lft, up]
      · rw [base (by decide)]; simp [mt, up]
      · rw [base (by decide)]; simp [mt, up]
  have pre : rcal 184 [.ref p, .int (I D.length)] (mm h p g A a c m, r) = (if fidx (holP (imin (s.2.2 6 + stp_ s.2) (s.2.2 6))) (prs S) 0 = -1 then (if s.2.2 6 + stp_ s.2 = s.2.2 3 then rn 184 82 [.ref p, .int (I D.length), .int (I (22 + 9 * D.length)), .int (imin (s.2.2 6 + stp_ s.2) (s.2.2 6)), .int (s.2.2 6 + stp_ s.2)] [] (mm h p g A a c m, r) else (if 0 < freN tk S (s.2.2 6 + stp_ s.2) then rn 184 82 [.ref p, .int (I D.length), .int (I (22 + 9 * D.length)), .int (imin (s.2.2 6 + stp_ s.2) (s.2.2 6)), .int (s.2.2 6 + stp_ s.2)] [] (mm h p g A a c m, r) else rn 184 121 [.ref p, .int (I D.length), .int (I (22 + 9 * D.length)), .int (imin (s.2.2 6 + stp_ s.2) (s.2.2 6)), .int (s.2.2 6 + stp_ s.2)] [] (mm h p g A a c m, r))) else rn 184 121 [.ref p, .int (I D.length), .int (I (22 + 9 * D.length)), .int (imin (s.2.2 6 + stp_ s.2) (s.2.2 6)), .int (s.2.2 6 + stp_ s.2)] [] (mm h p g A a c m, r)) := by
    rw [hwy] at h158
    unfold stp_ at h158
    by_cases cw : s.2.2 2 < s.2.2 3
    · have e1 : imin (s.2.2 6 + stp_ s.2) (s.2.2 6) = s.2.2 6 := by rw [k3, if_pos cw]
      have e2 : stp_ s.2 = 1 := by unfold stp_; rw [if_pos cw]
      rw [if_pos cw] at h158
      rw [e1] at h160 ⊢
      rw [e2] at h163 ⊢
      simp only [c184, x184_0, x184_1, x184_4, x184_5, x184_6, x184_7, x184_10, x184_13, x184_14, x184_17, x184_18, x184_19, x184_20, x184_21, x184_34, x184_35, x184_36, x184_39, x184_40, x184_41, x184_42, x184_43, x184_44, x184_45, x184_48, x184_49, x184_51, x184_52, x184_53, x184_56, x184_57, x184_60, x184_62, x184_63, x184_66, x184_67, x184_68, x184_69, x184_70, x184_73, x184_74, x184_76, x184_79, x184_83, x184_86, x184_87, x184_88, x184_89, x184_90, x184_91, x184_92, x184_95, x184_96, x184_97, x184_98, x184_99, x184_100, x184_101, x184_104, x184_105, x184_107, x184_108, x184_109, x184_112, x184_114, x184_115, x184_116, x184_117, x184_118, x184_134, x184_122, x184_125, x184_126, x184_128, x184_129, x184_130, x184_131, x184_132, x184_133, x184_24, x184_25, x184_28, x184_29, x184_30, x184_31, x184_32, x184_33, gk_some, pk_some, qk_some, bnd_v, bnd_n, kl_int, kl_ref, kl_null, kl_un, Nat.reduceAdd, if_true, if_false, mm_0, mm_12, mm_13, mm_rv, mm_l0, mm_l1, mm_l3, mm_l4, mm_l5, mm_l6, mm_l7, mm_l8, m154, I_1, Ia2, Ia3, Ia4, Ia5, Ia6, Ia7, Ia8, Ia9, Ia10, Ia11, Ia12, Il9, Il16, Il22, Il76, Im9, h158, show (0 : Int32) < 1 by decide, hr, show 5 < 9 by decide, show 2 < 9 by decide, mt, hpc, h160, h163]
    · have e1 : imin (s.2.2 6 + stp_ s.2) (s.2.2 6) = s.2.2 6 - 1 := by rw [k3, if_neg cw]
      have e2 : stp_ s.2 = -1 := by unfold stp_; rw [if_neg cw]
      rw [if_neg cw] at h158
      rw [e1] at h160 ⊢
      rw [e2] at h163 ⊢
      simp only [c184, x184_0, x184_1, x184_4, x184_5, x184_6, x184_7, x184_10, x184_13, x184_14, x184_17, x184_18, x184_19, x184_20, x184_21, x184_34, x184_35, x184_36, x184_39, x184_40, x184_41, x184_42, x184_43, x184_44, x184_45, x184_48, x184_49, x184_51, x184_52, x184_53, x184_56, x184_57, x184_60, x184_62, x184_63, x184_66, x184_67, x184_68, x184_69, x184_70, x184_73, x184_74, x184_76, x184_79, x184_83, x184_86, x184_87, x184_88, x184_89, x184_90, x184_91, x184_92, x184_95, x184_96, x184_97, x184_98, x184_99, x184_100, x184_101, x184_104, x184_105, x184_107, x184_108, x184_109, x184_112, x184_114, x184_115, x184_116, x184_117, x184_118, x184_134, x184_122, x184_125, x184_126, x184_128, x184_129, x184_130, x184_131, x184_132, x184_133, x184_24, x184_25, x184_28, x184_29, x184_30, x184_31, x184_32, x184_33, gk_some, pk_some, qk_some, bnd_v, bnd_n, kl_int, kl_ref, kl_null, kl_un, Nat.reduceAdd, if_true, if_false, mm_0, mm_12, mm_13, mm_rv, mm_l0, mm_l1, mm_l3, mm_l4, mm_l5, mm_l6, mm_l7, mm_l8, m154, I_1, Ia2, Ia3, Ia4, Ia5, Ia6, Ia7, Ia8, Ia9, Ia10, Ia11, Ia12, Il9, Il16, Il22, Il76, Im9, h158, show ¬ (0 : Int32) < -1 by decide, hr, show 5 < 9 by decide, show 2 < 9 by decide, mt, hpc, h160, h163]
  rw [pre]
  cases ef : S.find? (holP (imin (s.2.2 6 + stp_ s.2) (s.2.2 6))) with
  | none =>
    rw [fidx_none 0 (by rw [find_prs (hol_pr _)]; exact ef), if_pos rfl]
    by_cases e2 : s.2.2 6 + stp_ s.2 = s.2.2 3
    · rw [if_pos e2]
      have et : try1 f tk rt S s.1 = upS S s.1 (4, up (up (up s.2.2 7 (imin (s.2.2 6 + stp_ s.2) (s.2.2 6))) 6 (s.2.2 6 + stp_ s.2)) 8 (rt (imin (s.2.2 6 + stp_ s.2) (s.2.2 6)).toNatClampNeg)) := by
        unfold try1; rw [ht, if_pos ⟨Or.inl e2, ef⟩]
      rw [et]; exact leave
    · rw [if_neg e2]
      by_cases e3 : 0 < freN tk S (s.2.2 6 + stp_ s.2)
      · rw [if_pos e3]
        have et : try1 f tk rt S s.1 = upS S s.1 (4, up (up (up s.2.2 7 (imin (s.2.2 6 + stp_ s.2) (s.2.2 6))) 6 (s.2.2 6 + stp_ s.2)) 8 (rt (imin (s.2.2 6 + stp_ s.2) (s.2.2 6)).toNatClampNeg)) := by
          unfold try1; rw [ht, if_pos ⟨Or.inr e3, ef⟩]
        rw [et]; exact leave
      · rw [if_neg e3]
        have et : try1 f tk rt S s.1 = upS S s.1 (s.2.1, up s.2.2 10 (s.2.2 10 + 1)) := by
          unfold try1; rw [ht, if_neg (fun q => q.1.elim e2 e3)]
        rw [et]; exact stay
  | some o =>
    obtain ⟨D3, R3, h4, h5⟩ := fidx_some 0 (show (prs S).find? (holP (imin (s.2.2 6 + stp_ s.2) (s.2.2 6))) = some o by rw [find_prs (hol_pr _)]; exact ef)
    have hl3 : D3.length < 6 := by have := hM.2.1.2.1; rw [h4] at this; simp at this; omega
    rw [h5, if_neg (ne_m1 (by omega))]
    have et : try1 f tk rt S s.1 = upS S s.1 (s.2.1, up s.2.2 10 (s.2.2 10 + 1)) := by
      unfold try1; rw [ht, if_neg (fun q => by rw [ef] at q; cases q.2)]
    rw [et]; exact stay
end MLV
