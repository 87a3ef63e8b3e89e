/-! the reference's queries -/
def whr (t : TR) : Int32 := if t.1 = 4 then 2 else if t.1 = 3 then 1 else 0
def plc (t : TR) : Int32 := if t.1 = 4 then t.2 7 else if t.1 = 3 then t.2 6 else 0
def lft (t : TR) : Int32 := if t.1 = 4 then t.2 8 else 0
/-- a train's nine cells in the reference -/
def mt (t : TR) (c : Nat) : Int32 := match c with
  | 0 => t.2 1
  | 1 => t.2 2
  | 2 => t.2 3
  | 3 => t.2 4
  | 4 => whr t
  | 5 => plc t
  | 6 => lft t
  | 7 => t.2 9
  | _ => t.2 10
def TRel (a : Nat → Int32) (P : List SL) : Prop := a 1 = I P.length ∧ P.length ≤ 6 ∧ ∀ D s R, P = D ++ s :: R → ∀ c, c < 9 → a (22 + 9 * D.length + c) = mt s.2 c
theorem whr_2 (t : TR) : (whr t = 2) = (t.1 = 4) := by
  unfold whr
  by_cases e : t.1 = 4
  · simp [e]
  · rw [if_neg e]
    by_cases e2 : t.1 = 3
    · simp [e2]
    · simp [e, e2]
theorem whr_1 (t : TR) : (whr t = 1) = (t.1 = 3) := by
  unfold whr
  by_cases e : t.1 = 4
  · simp [e]
  · rw [if_neg e]
    by_cases e2 : t.1 = 3
    · simp [e2]
    · simp [e2]
theorem whr_0 (t : TR) : (whr t = 0) = (t.1 ≠ 4 ∧ t.1 ≠ 3) := by
  unfold whr
  by_cases e : t.1 = 4
  · simp [e]
  · rw [if_neg e]
    by_cases e2 : t.1 = 3
    · simp [e2]
    · simp [e, e2]
theorem toL_lt (x y : Int32) : (x.toInt64 < y.toInt64) = (x < y) := by
  rw [Int64.lt_iff_toInt_lt, Int32.toInt_toInt64, Int32.toInt_toInt64, ← Int32.lt_iff_toInt_lt]
theorem toL_eq (x y : Int32) : (x.toInt64 = y.toInt64) = (x = y) := by
  rw [← Int64.toInt_inj, Int32.toInt_toInt64, Int32.toInt_toInt64, Int32.toInt_inj]
theorem lgc (x y : Int32) : lg_cmp x.toInt64 y.toInt64 = if y < x then 1 else if x = y then 0 else -1 := by
  unfold lg_cmp
  simp only [gt_iff_lt, toL_lt, toL_eq]
theorem lgc_lt (x y : Int32) : (lg_cmp x.toInt64 y.toInt64 < 0) = (x < y) := by
  rw [lgc]
  by_cases h1 : y < x
  · rw [if_pos h1]
    have : ¬ x < y := by rw [Int32.lt_iff_toInt_lt] at h1 ⊢; omega
    simp [this]
  · rw [if_neg h1]
    by_cases h2 : x = y
    · rw [if_pos h2, h2]; simp
    · rw [if_neg h2]
      have : x < y := by
        rw [Int32.lt_iff_toInt_lt] at h1 ⊢
        have : x.toInt ≠ y.toInt := fun e => h2 (Int32.toInt_inj.mp e)
        omega
      simp [this]
theorem lgc_gt (x y : Int32) : (0 < lg_cmp x.toInt64 y.toInt64) = (y < x) := by
  rw [lgc]
  by_cases h1 : y < x
  · simp [h1]
  · rw [if_neg h1]
    by_cases h2 : x = y
    · rw [if_pos h2, h2]; simp
    · rw [if_neg h2]; simp [h1]
theorem m151 (v lo hi : Int32) (H : HS) : rcal 151 [.long v.toInt64, .long lo.toInt64, .long hi.toInt64] H = some (.inl (some (.int (b2i (decide (¬ v < lo ∧ ¬ hi < v))))), H) := by
  simp only [c151, x151_0, x151_1, x151_2, x151_3, x151_6, x151_7, x151_9, x151_10, x151_13, x151_14, x151_18, x151_17, gk_some, pk_some, qk_some, bnd_v, bnd_n, kl_int, kl_ref, kl_null, kl_un, Nat.reduceAdd, if_true, if_false, lgc_lt, lgc_gt]
  by_cases e : v < lo
  · simp only [e, fit1, fit0, fitb, b2i_t, b2i_f, reduceIte, decide_true, decide_false, not_true_eq_false, false_and, Bool.false_eq_true]
  · by_cases e2 : hi < v
    · simp only [e, e2, fit1, fit0, fitb, b2i_t, b2i_f, reduceIte, decide_true, decide_false, not_true_eq_false, and_false, Bool.false_eq_true]
    · simp only [e, e2, fit1, fit0, fitb, b2i_t, b2i_f, reduceIte, decide_true, decide_false, not_false_eq_true, and_self]
theorem m151_0 (v hi : Int32) (H : HS) : rcal 151 [.long v.toInt64, .long 0, .long hi.toInt64] H = some (.inl (some (.int (b2i (decide (¬ v < 0 ∧ ¬ hi < v))))), H) := m151 v 0 hi H
theorem m151_4 (v : Int32) (H : HS) : rcal 151 [.long v.toInt64, .long 1, .long 4] H = some (.inl (some (.int (b2i (decide (¬ v < 1 ∧ ¬ 4 < v))))), H) := m151 v 1 4 H
theorem m151_30 (v : Int32) (H : HS) : rcal 151 [.long v.toInt64, .long 1, .long 30] H = some (.inl (some (.int (b2i (decide (¬ v < 1 ∧ ¬ 30 < v))))), H) := m151 v 1 30 H
theorem m151_99 (v : Int32) (H : HS) : rcal 151 [.long v.toInt64, .long 1, .long 99] H = some (.inl (some (.int (b2i (decide (¬ v < 1 ∧ ¬ 99 < v))))), H) := m151 v 1 99 H
theorem m151_60 (v : Int32) (H : HS) : rcal 151 [.long v.toInt64, .long 1, .long 60] H = some (.inl (some (.int (b2i (decide (¬ v < 1 ∧ ¬ 60 < v))))), H) := m151 v 1 60 H
theorem m151_c (v : Int32) (H : HS) : rcal 151 [.long v.toInt64, .long 48, .long 57] H = some (.inl (some (.int (b2i (decide (¬ v < 48 ∧ ¬ 57 < v))))), H) := m151 v 48 57 H
theorem lt_pred {v : Int32} {n : Nat} (hn : n ≤ 7) : (I n - 1 < v) = (¬ v < I n) := by
  have h1 : (I n).toInt = n := Int32.toInt_ofNat_of_lt (by omega)
  have h2 : (I n - 1).toInt = (n : Int) - 1 := by
    rw [Int32.toInt_sub, h1, show (1 : Int32).toInt = 1 from rfl]
    exact Int.bmod_eq_of_le (by omega) (by omega)
  rw [Int32.lt_iff_toInt_lt, Int32.lt_iff_toInt_lt, h1, h2]
  exact propext (by omega)
theorem lt_pred2 {v : Int32} {n : Nat} (hn : n ≤ 7) (h0 : ¬ v < 0) : (I n - 2 < v) = (¬ v < I n - 1) := by
  have h1 : (I n).toInt = n := Int32.toInt_ofNat_of_lt (by omega)
  have h2 : (I n - 1).toInt = (n : Int) - 1 := by
    rw [Int32.toInt_sub, h1, show (1 : Int32).toInt = 1 from rfl]
    exact Int.bmod_eq_of_le (by omega) (by omega)
  have h3 : (I n - 2).toInt = (n : Int) - 2 := by
    rw [Int32.toInt_sub, h1, show (2 : Int32).toInt = 2 from rfl]
    exact Int.bmod_eq_of_le (by omega) (by omega)
  rw [Int32.lt_iff_toInt_lt, Int32.lt_iff_toInt_lt, h2, h3]
  exact propext (by omega)
section MREAD
variable (h : PH) {p : Nat} (g : Nat → Int32) (A : Nat → Nat → Int32) (r : Nat × Nat × Nat)
theorem m155 {n : Nat} (hn : A 1 0 = I n) (h7 : n ≤ 7) (v : Int32) : rcal 155 [.ref p, .int v] (mput h p g A, r) = some (.inl (some (.int (b2i (decide (¬ v < 0 ∧ v < I n))))), (mput h p g A, r)) := by
  simp only [c155, x155_0, x155_1, x155_2, x155_3, x155_4, x155_7, x155_8, x155_9, x155_10, x155_11, x155_12, x155_15, gk_some, pk_some, qk_some, bnd_v, bnd_n, kl_int, kl_ref, kl_null, kl_un, Nat.reduceAdd, if_true, if_false, gm0, gm1, gm2, gm3, gm4, gm5, gm6, gm7, gm8, gm9, gm10, gm11, gm12, gm13, gm14, gm15, gm16, gm17, gm18, gm19, gm20, gm21, gm22, rvM, rl0, rl1, rl2, rl3, rl4, rl5, rl6, rl7, rl8, hn, m151_0, lt_pred h7, fitb, Classical.not_not]
theorem m156 {n : Nat} (hn : A 1 0 = I n) (h7 : n ≤ 7) (v : Int32) : rcal 156 [.ref p, .int v] (mput h p g A, r) = some (.inl (some (.int (b2i (decide (¬ v < 0 ∧ v < I n - 1))))), (mput h p g A, r)) := by
  have e : decide (¬ v < 0 ∧ ¬ I n - 2 < v) = decide (¬ v < 0 ∧ v < I n - 1) := by
    refine decide_eq_decide.mpr ⟨fun q => ⟨q.1, ?_⟩, fun q => ⟨q.1, ?_⟩⟩
    · rw [lt_pred2 h7 q.1, Classical.not_not] at q; exact q.2
    · rw [lt_pred2 h7 q.1, Classical.not_not]; exact q.2
  simp only [c156, x156_0, x156_1, x156_2, x156_3, x156_4, x156_7, x156_8, x156_9, x156_10, x156_11, x156_12, x156_15, gk_some, pk_some, qk_some, bnd_v, bnd_n, kl_int, kl_ref, kl_null, kl_un, Nat.reduceAdd, if_true, if_false, gm0, gm1, gm2, gm3, gm4, gm5, gm6, gm7, gm8, gm9, gm10, gm11, gm12, gm13, gm14, gm15, gm16, gm17, gm18, gm19, gm20, gm21, gm22, rvM, rl0, rl1, rl2, rl3, rl4, rl5, rl6, rl7, rl8, hn, m151_0, e, fitb]
theorem mrd {P D R : List SL} {s : SL} (hT : TRel (A 1) P) (hP : P = D ++ s :: R) : ∀ c, c < 9 → ald (mput h p g A, r) 100 (p + 1) (I (22 + 9 * D.length + c)) = some (.int (mt s.2 c)) := by
  intro c hc
  have hl : D.length < 6 := by have := hT.2.1; rw [hP] at this; simp at this; omega
  rw [rn1 h g A r (show 22 + 9 * D.length + c < 76 by omega), hT.2.2 D s R hP c hc]
theorem mrd0 {P D R : List SL} {s : SL} (hT : TRel (A 1) P) (hP : P = D ++ s :: R) : ald (mput h p g A, r) 100 (p + 1) (I (22 + 9 * D.length)) = some (.int (s.2.2 1)) := mrd h g A r hT hP 0 (by decide)
theorem mlt {P D R : List SL} {s : SL} (hT : TRel (A 1) P) (hP : P = D ++ s :: R) : I D.length < I P.length := by
  have := hT.2.1
  rw [I_lt (by rw [hP] at this; simp at this; omega) (by omega), hP]; simp
theorem nlt_end {P D : List SL} (hP : P = D ++ []) : ¬ I D.length < I P.length := by
  rw [hP, List.append_nil]; rw [Int32.lt_iff_toInt_lt]; omega
/-- the first place of a train with a word, none: -1 -/
def fidx (q : SL → Bool) : List SL → Nat → Int32
  | [], _ => -1
  | s :: R, k => if q s = true then I k else fidx q R (k + 1)
def numP (v : Int32) (s : SL) : Bool := decide (s.2.2 1 = v)
theorem l157 {P : List SL} (hT : TRel (A 1) P) (v : Int32) : ∀ (R D : List SL) (i : Int32), P = D ++ R → i = I D.length → rn 157 2 [.ref p, .int v, .int i] [] (mput h p g A, r) = some (.inl (some (.int (fidx (numP v) R D.length))), (mput h p g A, r)) := by
  intro R
  induction R with
  | nil =>
    intro D i hP hi
    rw [x157_2]
    simp only [x157_0, x157_1, x157_3, x157_4, x157_7, x157_8, x157_9, x157_12, x157_13, x157_16, x157_17, x157_20, x157_21, x157_22, x157_25, x157_26, x157_27, x157_30, x157_33, x157_34, gk_some, pk_some, qk_some, bnd_v, bnd_n, kl_int, kl_ref, kl_null, kl_un, Nat.reduceAdd, if_true, if_false, gm0, gm1, gm2, gm3, gm4, gm5, gm6, gm7, gm8, gm9, gm10, gm11, gm12, gm13, gm14, gm15, gm16, gm17, gm18, gm19, gm20, gm21, gm22, rvM, rl0, rl1, rl2, rl3, rl4, rl5, rl6, rl7, rl8, hi, hT.1, nlt_end hP, fidx]
  | cons s R ih =>
    intro D i hP hi
    have h0 := mrd0 h g A r (p := p) hT hP
    have ih' := ih (D ++ [s]) (I D.length + 1) (sub_ hP) (len_ D s)
    rw [List.length_append, List.length_singleton] at ih'
    rw [x157_2]
    by_cases e : s.2.2 1 = v
    · simp only [x157_0, x157_1, x157_3, x157_4, x157_7, x157_8, x157_9, x157_12, x157_13, x157_16, x157_17, x157_20, x157_21, x157_22, x157_25, x157_26, x157_27, x157_30, x157_33, x157_34, gk_some, pk_some, qk_some, bnd_v, bnd_n, kl_int, kl_ref, kl_null, kl_un, Nat.reduceAdd, if_true, if_false, gm0, gm1, gm2, gm3, gm4, gm5, gm6, gm7, gm8, gm9, gm10, gm11, gm12, gm13, gm14, gm15, gm16, gm17, gm18, gm19, gm20, gm21, gm22, rvM, rl0, rl1, rl2, rl3, rl4, rl5, rl6, rl7, rl8, hi, hT.1, mlt A hT hP, m154, h0, e, fidx, numP, fit1, fit0, fitb, b2i_t, b2i_f, reduceIte, decide_true, decide_false]
    · simp only [x157_0, x157_1, x157_3, x157_4, x157_7, x157_8, x157_9, x157_12, x157_13, x157_16, x157_17, x157_20, x157_21, x157_22, x157_25, x157_26, x157_27, x157_30, x157_33, x157_34, gk_some, pk_some, qk_some, bnd_v, bnd_n, kl_int, kl_ref, kl_null, kl_un, Nat.reduceAdd, if_true, if_false, gm0, gm1, gm2, gm3, gm4, gm5, gm6, gm7, gm8, gm9, gm10, gm11, gm12, gm13, gm14, gm15, gm16, gm17, gm18, gm19, gm20, gm21, gm22, rvM, rl0, rl1, rl2, rl3, rl4, rl5, rl6, rl7, rl8, hi, hT.1, mlt A hT hP, m154, h0, e, fidx, numP, fit1, fit0, fitb, b2i_t, b2i_f, reduceIte, decide_true, decide_false, Bool.false_eq_true, ih']
theorem m157 {P : List SL} (hT : TRel (A 1) P) (v : Int32) : rcal 157 [.ref p, .int v] (mput h p g A, r) = some (.inl (some (.int (fidx (numP v) P 0))), (mput h p g A, r)) := by
  have e := l157 h g A r (p := p) hT v P [] 0 rfl rfl
  simp only [List.length_nil] at e
  simp only [c157, x157_0, x157_1, x157_3, x157_4, x157_7, x157_8, x157_9, x157_12, x157_13, x157_16, x157_17, x157_20, x157_21, x157_22, x157_25, x157_26, x157_27, x157_30, x157_33, x157_34, gk_some, pk_some, qk_some, bnd_v, bnd_n, kl_int, kl_ref, kl_null, kl_un, Nat.reduceAdd, if_true, if_false, e]
def wayT (t : TR) : Int32 := if t.2 2 < t.2 3 then 1 else -1
def ahdT (t : TR) : Int32 := plc t + (if t.2 2 < t.2 3 then 1 else 0)
theorem m158 {P D R : List SL} {s : SL} (hT : TRel (A 1) P) (hP : P = D ++ s :: R) : rcal 158 [.ref p, .int (I D.length)] (mput h p g A, r) = some (.inl (some (.int (wayT s.2))), (mput h p g A, r)) := by
  have hr := mrd h g A r (p := p) hT hP
  simp only [c158, x158_0, x158_1, x158_4, x158_5, x158_8, x158_9, x158_10, x158_11, x158_12, x158_15, x158_16, x158_19, x158_20, x158_21, x158_22, x158_25, x158_26, x158_30, x158_29, gk_some, pk_some, qk_some, bnd_v, bnd_n, kl_int, kl_ref, kl_null, kl_un, Nat.reduceAdd, if_true, if_false, gm0, gm1, gm2, gm3, gm4, gm5, gm6, gm7, gm8, gm9, gm10, gm11, gm12, gm13, gm14, gm15, gm16, gm17, gm18, gm19, gm20, gm21, gm22, rvM, m154, I_1, Ia2, Ia3, Ia4, Ia5, Ia6, Ia7, Ia8, Ia9, Ia10, Ia11, Ia12, Il9, Il16, Il22, Il76, Im9, hr, show 1 < 9 by decide, show 2 < 9 by decide, mt, wayT]
  by_cases e : s.2.2 2 < s.2.2 3
  · simp only [e, fit1, fit0, fitb, b2i_t, b2i_f, reduceIte, decide_true, decide_false]
  · simp only [e, fit1, fit0, fitb, b2i_t, b2i_f, reduceIte, decide_true, decide_false]
theorem m159 {P D R : List SL} {s : SL} (hT : TRel (A 1) P) (hP : P = D ++ s :: R) : rcal 159 [.ref p, .int (I D.length)] (mput h p g A, r) = some (.inl (some (.int (ahdT s.2))), (mput h p g A, r)) := by
  have hr := mrd h g A r (p := p) hT hP
  have h158 := m158 h g A r (p := p) hT hP
  unfold wayT at h158
  simp only [c159, x159_0, x159_1, x159_4, x159_5, x159_8, x159_9, x159_10, x159_11, x159_12, x159_13, x159_16, x159_19, x159_20, x159_24, x159_25, x159_23, gk_some, pk_some, qk_some, bnd_v, bnd_n, kl_int, kl_ref, kl_null, kl_un, Nat.reduceAdd, if_true, if_false, gm0, gm1, gm2, gm3, gm4, gm5, gm6, gm7, gm8, gm9, gm10, gm11, gm12, gm13, gm14, gm15, gm16, gm17, gm18, gm19, gm20, gm21, gm22, rvM, m154, I_1, Ia2, Ia3, Ia4, Ia5, Ia6, Ia7, Ia8, Ia9, Ia10, Ia11, Ia12, Il9, Il16, Il22, Il76, Im9, hr, show 5 < 9 by decide, mt, h158, ahdT]
  by_cases e : s.2.2 2 < s.2.2 3
  · simp only [e, fit1, fit0, fitb, b2i_t, b2i_f, reduceIte, decide_true, decide_false, show (0 : Int32) < 1 by decide]
  · simp only [e, fit1, fit0, fitb, b2i_t, b2i_f, reduceIte, decide_true, decide_false, show ¬ (0 : Int32) < -1 by decide]
def hol2 (v : Int32) (s : SL) : Bool := decide (s.2.1 = 4) && decide (plc s.2 = v)
theorem l160 {P : List SL} (hT : TRel (A 1) P) (v : Int32) : ∀ (R D : List SL) (i : Int32), P = D ++ R → i = I D.length → rn 160 2 [.ref p, .int v, .int i] [] (mput h p g A, r) = some (.inl (some (.int (fidx (holP v) R D.length))), (mput h p g A, r)) := by
  intro R
  induction R with
  | nil =>
    intro D i hP hi
    rw [x160_2]
    simp only [x160_0, x160_1, x160_3, x160_4, x160_7, x160_8, x160_9, x160_12, x160_13, x160_16, x160_17, x160_20, x160_21, x160_22, x160_23, x160_24, x160_27, x160_28, x160_31, x160_32, x160_35, x160_36, x160_37, x160_38, x160_39, x160_42, x160_43, x160_44, x160_47, x160_50, x160_51, gk_some, pk_some, qk_some, bnd_v, bnd_n, kl_int, kl_ref, kl_null, kl_un, Nat.reduceAdd, if_true, if_false, gm0, gm1, gm2, gm3, gm4, gm5, gm6, gm7, gm8, gm9, gm10, gm11, gm12, gm13, gm14, gm15, gm16, gm17, gm18, gm19, gm20, gm21, gm22, rvM, rl0, rl1, rl2, rl3, rl4, rl5, rl6, rl7, rl8, hi, hT.1, nlt_end hP, fidx]
  | cons s R ih =>
    intro D i hP hi
    have hr := mrd h g A r (p := p) hT hP
    have ih' := ih (D ++ [s]) (I D.length + 1) (sub_ hP) (len_ D s)
    rw [List.length_append, List.length_singleton] at ih'
    rw [x160_2]
    simp only [x160_0, x160_1, x160_3, x160_4, x160_7, x160_8, x160_9, x160_12, x160_13, x160_16, x160_17, x160_20, x160_21, x160_22, x160_23, x160_24, x160_27, x160_28, x160_31, x160_32, x160_35, x160_36, x160_37, x160_38, x160_39, x160_42, x160_43, x160_44, x160_47, x160_50, x160_51, gk_some, pk_some, qk_some, bnd_v, bnd_n, kl_int, kl_ref, kl_null, kl_un, Nat.reduceAdd, if_true, if_false, gm0, gm1, gm2, gm3, gm4, gm5, gm6, gm7, gm8, gm9, gm10, gm11, gm12, gm13, gm14, gm15, gm16, gm17, gm18, gm19, gm20, gm21, gm22, rvM, rl0, rl1, rl2, rl3, rl4, rl5, rl6, rl7, rl8, hi, hT.1, mlt A hT hP, m154, I_1, Ia2, Ia3, Ia4, Ia5, Ia6, Ia7, Ia8, Ia9, Ia10, Ia11, Ia12, Il9, Il16, Il22, Il76, Im9, hr, show 4 < 9 by decide, show 5 < 9 by decide, mt, whr_2, fidx]
    by_cases e : s.2.1 = 4
    · by_cases e2 : s.2.2 7 = v
      · simp only [e, e2, plc, holP, fit1, fit0, fitb, b2i_t, b2i_f, reduceIte, decide_true, decide_false, Bool.and_self]
      · rw [I_1] at ih'
        simp only [e, e2, plc, holP, fit1, fit0, fitb, b2i_t, b2i_f, reduceIte, decide_true, decide_false, Bool.and_false, Bool.false_eq_true, ih']
    · rw [I_1] at ih'
      simp only [e, holP, fit1, fit0, fitb, b2i_t, b2i_f, reduceIte, decide_true, decide_false, Bool.false_and, Bool.false_eq_true, ih']
theorem m160 {P : List SL} (hT : TRel (A 1) P) (v : Int32) : rcal 160 [.ref p, .int v] (mput h p g A, r) = some (.inl (some (.int (fidx (holP v) P 0))), (mput h p g A, r)) := by
  have e := l160 h g A r (p := p) hT v P [] 0 rfl rfl
  simp only [List.length_nil] at e
  simp only [c160, x160_0, x160_1, x160_3, x160_4, x160_7, x160_8, x160_9, x160_12, x160_13, x160_16, x160_17, x160_20, x160_21, x160_22, x160_23, x160_24, x160_27, x160_28, x160_31, x160_32, x160_35, x160_36, x160_37, x160_38, x160_39, x160_42, x160_43, x160_44, x160_47, x160_50, x160_51, gk_some, pk_some, qk_some, bnd_v, bnd_n, kl_int, kl_ref, kl_null, kl_un, Nat.reduceAdd, if_true, if_false, e]
def staP (v : Int32) (s : SL) : Bool := decide (s.2.1 = 3) && decide (s.2.2 6 = v)
theorem l161 {P : List SL} (hT : TRel (A 1) P) (v : Int32) : ∀ (R D : List SL) (i : Int32) (n : Nat), P = D ++ R → i = I D.length → rn 161 4 [.ref p, .int v, .int (I n), .int i] [] (mput h p g A, r) = some (.inl (some (.int (I (n + R.countP (staP v))))), (mput h p g A, r)) := by
  intro R
  induction R with
  | nil =>
    intro D i n hP hi
    rw [x161_4]
    simp only [x161_0, x161_1, x161_2, x161_3, x161_5, x161_6, x161_9, x161_10, x161_11, x161_14, x161_15, x161_16, x161_19, x161_20, x161_23, x161_24, x161_25, x161_26, x161_27, x161_30, x161_31, x161_34, x161_35, x161_38, x161_39, x161_40, x161_41, x161_42, x161_45, x161_46, x161_50, x161_51, x161_52, x161_55, x161_49, x161_58, x161_59, gk_some, pk_some, qk_some, bnd_v, bnd_n, kl_int, kl_ref, kl_null, kl_un, Nat.reduceAdd, if_true, if_false, gm0, gm1, gm2, gm3, gm4, gm5, gm6, gm7, gm8, gm9, gm10, gm11, gm12, gm13, gm14, gm15, gm16, gm17, gm18, gm19, gm20, gm21, gm22, rvM, rl0, rl1, rl2, rl3, rl4, rl5, rl6, rl7, rl8, hi, hT.1, nlt_end hP, List.countP_nil, Nat.add_zero]
  | cons s R ih =>
    intro D i n hP hi
    have hr := mrd h g A r (p := p) hT hP
    have ih' := fun n => ih (D ++ [s]) (I D.length + 1) n (sub_ hP) (len_ D s)
    simp only [I_1] at ih'
    rw [x161_4, List.countP_cons]
    simp only [x161_0, x161_1, x161_2, x161_3, x161_5, x161_6, x161_9, x161_10, x161_11, x161_14, x161_15, x161_16, x161_19, x161_20, x161_23, x161_24, x161_25, x161_26, x161_27, x161_30, x161_31, x161_34, x161_35, x161_38, x161_39, x161_40, x161_41, x161_42, x161_45, x161_46, x161_50, x161_51, x161_52, x161_55, x161_49, x161_58, x161_59, gk_some, pk_some, qk_some, bnd_v, bnd_n, kl_int, kl_ref, kl_null, kl_un, Nat.reduceAdd, if_true, if_false, gm0, gm1, gm2, gm3, gm4, gm5, gm6, gm7, gm8, gm9, gm10, gm11, gm12, gm13, gm14, gm15, gm16, gm17, gm18, gm19, gm20, gm21, gm22, rvM, rl0, rl1, rl2, rl3, rl4, rl5, rl6, rl7, rl8, hi, hT.1, mlt A hT hP, m154, I_1, Ia2, Ia3, Ia4, Ia5, Ia6, Ia7, Ia8, Ia9, Ia10, Ia11, Ia12, Il9, Il16, Il22, Il76, Im9, hr, show 4 < 9 by decide, show 5 < 9 by decide, mt, whr_1]
    by_cases e : s.2.1 = 3
    · by_cases e2 : s.2.2 6 = v
      · simp only [e, e2, plc, staP, fit1, fit0, fitb, b2i_t, b2i_f, reduceIte, decide_true, decide_false, Bool.and_self, show ¬ (3 : Nat) = 4 by decide, x161_0, x161_1, x161_2, x161_3, x161_5, x161_6, x161_9, x161_10, x161_11, x161_14, x161_15, x161_16, x161_19, x161_20, x161_23, x161_24, x161_25, x161_26, x161_27, x161_30, x161_31, x161_34, x161_35, x161_38, x161_39, x161_40, x161_41, x161_42, x161_45, x161_46, x161_50, x161_51, x161_52, x161_55, x161_49, x161_58, x161_59, gk_some, pk_some, qk_some, bnd_v, bnd_n, kl_int, kl_ref, kl_null, kl_un, Nat.reduceAdd, if_true, if_false, I_1, Ia2, Ia3, Ia4, Ia5, Ia6, Ia7, Ia8, Ia9, Ia10, Ia11, Ia12, Il9, Il16, Il22, Il76, Im9, ih']
        rw [Nat.add_right_comm]; rfl
      · simp only [e, e2, plc, staP, fit1, fit0, fitb, b2i_t, b2i_f, reduceIte, decide_true, decide_false, Bool.and_false, Bool.false_eq_true, show ¬ (3 : Nat) = 4 by decide, x161_0, x161_1, x161_2, x161_3, x161_5, x161_6, x161_9, x161_10, x161_11, x161_14, x161_15, x161_16, x161_19, x161_20, x161_23, x161_24, x161_25, x161_26, x161_27, x161_30, x161_31, x161_34, x161_35, x161_38, x161_39, x161_40, x161_41, x161_42, x161_45, x161_46, x161_50, x161_51, x161_52, x161_55, x161_49, x161_58, x161_59, gk_some, pk_some, qk_some, bnd_v, bnd_n, kl_int, kl_ref, kl_null, kl_un, Nat.reduceAdd, if_true, if_false, Int32.add_zero, I_1, Ia2, Ia3, Ia4, Ia5, Ia6, Ia7, Ia8, Ia9, Ia10, Ia11, Ia12, Il9, Il16, Il22, Il76, Im9, ih', Nat.add_zero]
    · simp only [e, staP, fit1, fit0, fitb, b2i_t, b2i_f, reduceIte, decide_true, decide_false, Bool.false_and, Bool.false_eq_true, x161_0, x161_1, x161_2, x161_3, x161_5, x161_6, x161_9, x161_10, x161_11, x161_14, x161_15, x161_16, x161_19, x161_20, x161_23, x161_24, x161_25, x161_26, x161_27, x161_30, x161_31, x161_34, x161_35, x161_38, x161_39, x161_40, x161_41, x161_42, x161_45, x161_46, x161_50, x161_51, x161_52, x161_55, x161_49, x161_58, x161_59, gk_some, pk_some, qk_some, bnd_v, bnd_n, kl_int, kl_ref, kl_null, kl_un, Nat.reduceAdd, if_true, if_false, Int32.add_zero, I_1, Ia2, Ia3, Ia4, Ia5, Ia6, Ia7, Ia8, Ia9, Ia10, Ia11, Ia12, Il9, Il16, Il22, Il76, Im9, ih', Nat.add_zero]
theorem m161 {P : List SL} (hT : TRel (A 1) P) (v : Int32) : rcal 161 [.ref p, .int v] (mput h p g A, r) = some (.inl (some (.int (I (P.countP (staP v))))), (mput h p g A, r)) := by
  have e := l161 h g A r (p := p) hT v P [] 0 0 rfl rfl
  rw [show I 0 = 0 from rfl, Nat.zero_add] at e
  simp only [c161, x161_0, x161_1, x161_2, x161_3, x161_5, x161_6, x161_9, x161_10, x161_11, x161_14, x161_15, x161_16, x161_19, x161_20, x161_23, x161_24, x161_25, x161_26, x161_27, x161_30, x161_31, x161_34, x161_35, x161_38, x161_39, x161_40, x161_41, x161_42, x161_45, x161_46, x161_50, x161_51, x161_52, x161_55, x161_49, x161_58, x161_59, gk_some, pk_some, qk_some, bnd_v, bnd_n, kl_int, kl_ref, kl_null, kl_un, Nat.reduceAdd, if_true, if_false, e]
end MREAD
