/-! the output: bounds, a train written, a sign of it -/
theorem cnF_cons (s : SL) (S : List SL) : ∀ fu k, cnF (s :: S) fu k = cnF [s] fu k + cnF S fu k
  | 0, _ => rfl
  | fu + 1, k => by
    rw [cnF, cnF, cnF, cnF_cons s S fu (k + 1)]
    by_cases e : staP (I k) s = true
    · rw [List.filter_cons_of_pos e, List.filter_cons_of_pos e, List.length_cons, List.length_cons, List.filter_nil, List.length_nil]; omega
    · rw [List.filter_cons_of_neg e, List.filter_cons_of_neg e, List.filter_nil, List.length_nil]; omega
theorem cnF_z {s : SL} {k0 : Nat} (e : s.2.2 6 = I k0) : ∀ fu k, k0 < k → k + fu ≤ 100 → cnF [s] fu k = 0
  | 0, _, _, _ => rfl
  | fu + 1, k, h1, h2 => by
    have n : ¬ staP (I k) s = true := by
      unfold staP
      simp only [Bool.and_eq_true, decide_eq_true_eq, e]
      intro q
      have := (I_inj (by omega) (by omega)).mp q.2
      omega
    rw [cnF, List.filter_cons_of_neg n, cnF_z e fu (k + 1) (by omega) (by omega)]; rfl
theorem cnF_1 (s : SL) : ∀ fu k, k + fu ≤ 100 → cnF [s] fu k ≤ 1
  | 0, _, _ => Nat.zero_le _
  | fu + 1, k, h => by
    rw [cnF]
    by_cases e : staP (I k) s = true
    · have e6 : s.2.2 6 = I k := by
        unfold staP at e; simp only [Bool.and_eq_true, decide_eq_true_eq] at e; exact e.2
      rw [List.filter_cons_of_pos e, cnF_z e6 fu (k + 1) (by omega) (by omega)]; exact Nat.le_refl 1
    · rw [List.filter_cons_of_neg e]
      have := cnF_1 s fu (k + 1) (by omega)
      simpa using this
theorem cnF_le : ∀ (S : List SL) (fu k : Nat), k + fu ≤ 100 → cnF S fu k ≤ S.length
  | [], fu, k, h => by
    have : ∀ fu k, cnF [] fu k = 0 := by
      intro fu
      induction fu with
      | zero => intro k; rfl
      | succ fu ih => intro k; rw [cnF, ih]; rfl
    rw [this]; exact Nat.zero_le _
  | s :: S, fu, k, h => by
    rw [cnF_cons, List.length_cons]
    have h1 := cnF_1 s fu k h
    have h2 := cnF_le S fu k h
    omega
theorem wr_lt : ∀ (l : List Int32) (f : Nat → Int32) (m k : Nat), k < m → wr f m l k = f k
  | [], _, _, _, _ => rfl
  | v :: l, f, m, k, h => by rw [wr, wr_lt l _ (m + 1) k (by omega), up_ne _ _ (by omega)]
theorem wr_all {P : Int32 → Prop} : ∀ (l : List Int32) (f : Nat → Int32) (m : Nat), (∀ v, v ∈ l → P v) → ∀ k, m ≤ k → k < m + l.length → P (wr f m l k)
  | [], f, m, _, k, h1, h2 => by simp at h2; omega
  | v :: l, f, m, h, k, h1, h2 => by
    rw [List.length_cons] at h2
    rw [wr]
    by_cases e : k = m
    · subst e
      rw [wr_lt l _ (k + 1) k (by omega), up_eq]
      exact h v List.mem_cons_self
    · exact wr_all l _ (m + 1) (fun u hu => h u (List.mem_cons_of_mem _ hu)) k (by omega) (by omega)
def chs (l : List Int32) : Prop := ∀ v, v ∈ l → chO v = true
theorem chs_app {a b : List Int32} (ha : chs a) (hb : chs b) : chs (a ++ b) := fun v hv => (List.mem_append.mp hv).elim (ha v) (hb v)
theorem chs_1 {v : Int32} (h : chO v = true) : chs [v] := fun u hu => by rw [List.mem_singleton.mp hu]; exact h
theorem chs_0 : chs [] := fun u hu => by cases hu
theorem ch48 : ∀ d, d < 10 → chO (I (48 + d)) = true := by decide +kernel
theorem chs_dg (n : Nat) : ∀ j, chs (dgts n j)
  | 0 => chs_1 (ch48 _ (Nat.mod_lt _ (by decide)))
  | j + 1 => chs_app (a := [_]) (chs_1 (ch48 _ (Nat.mod_lt _ (by decide)))) (chs_dg n j)
theorem ch_ck : chO 91 = true ∧ chO 93 = true ∧ chO 44 = true ∧ chO 45 = true ∧ chO 60 = true ∧ chO 62 = true ∧ chO 58 = true ∧ chO 64 = true ∧ chO 33 = true ∧ chO 43 = true := by decide +kernel
theorem chs_tr : ∀ (R : List SL) (b : Bool), chs (trW R b)
  | [], _ => chs_0
  | s :: R, b => by
    rw [trW]
    refine chs_app ?_ (chs_app (chs_dg _ _) (chs_tr R false))
    split
    · exact chs_0
    · exact chs_1 ch_ck.2.2.1
theorem chs_st (L : LN) (v : Int32) : chs (stW L v) := chs_app (chs_1 ch_ck.1) (chs_app (chs_tr _ _) (chs_1 ch_ck.2.1))
theorem chs_se (L : LN) (v : Int32) : chs (seW L v) := by
  unfold seW
  split
  · exact chs_1 ch_ck.2.2.2.1
  · refine chs_app (chs_1 ?_) (chs_dg _ _)
    split
    · exact ch_ck.2.2.2.2.2.1
    · exact ch_ck.2.2.2.2.1
theorem chs_mo (L : LN) (n : Nat) : ∀ fu k, chs (moW L n fu k)
  | 0, _ => chs_0
  | fu + 1, k => by
    rw [moW]
    refine chs_app (chs_st _ _) (chs_app ?_ (chs_mo L n fu (k + 1)))
    split
    · exact chs_se _ _
    · exact chs_0
theorem moW_len {L : LN} (hN : ∀ t, t ∈ L.2.2.2.2 → t.2.1 ≠ 1 → nbK t) (n : Nat) : ∀ fu k, (moW L n fu k).length ≤ 6 * fu + 4 * cnF L.2.2.2.2 fu k
  | 0, _ => Nat.le_refl _
  | fu + 1, k => by
    have h1 := stW_len (L := L) (v := I k) (fun t ht q => hN t ht (by
      unfold staP at q; simp only [Bool.and_eq_true, decide_eq_true_eq] at q; rw [q.1]; decide))
    have h2 := seW_len (L := L) (v := I k) (fun t ht q => hN t ht (hol_prs _ t q))
    have h3 := moW_len hN n fu (k + 1)
    rw [moW, cnF, List.length_append, List.length_append]
    split
    · omega
    · simp only [List.length_nil]; omega
/-- a number, its signs -/
def dgW (x : Int32) : List Int32 := dgts x.toNatClampNeg (tpd x.toNatClampNeg 8 0)
def nmK (x : Int32) : Prop := ∃ m, x = I m ∧ m < 1000000000
theorem dgW_of {m : Nat} (h : m < 1000000000) : dgW (I m) = dgts m (tpd m 8 0) := by
  unfold dgW; rw [I_nat (by omega)]
theorem dgW_len (x : Int32) : (dgW x).length ≤ 9 := by
  unfold dgW; rw [dgts_len]
  have := tpd_le x.toNatClampNeg 8 0
  omega
/-- a train written -/
def tW (t : TR) : List Int32 := [] ++ dgW (t.2 1) ++ [58] ++ dgW (t.2 2) ++ [62] ++ dgW (t.2 3) ++ [64] ++ dgW (t.2 4) ++ (if t.2 9 = 0 then [] else [33]) ++ (if t.2 10 = 0 then [] else [43] ++ dgW (t.2 10))
def tK (t : TR) : Prop := nmK (t.2 1) ∧ nmK (t.2 2) ∧ nmK (t.2 3) ∧ nmK (t.2 4) ∧ nmK (t.2 10) ∧ (t.2 9 = 0 ∨ t.2 9 = 1)
theorem chs_tW (t : TR) : chs (tW t) := by
  unfold tW
  refine chs_app (chs_app (chs_app (chs_app (chs_app (chs_app (chs_app (chs_app (chs_app chs_0 (chs_dg _ _)) (chs_1 ch_ck.2.2.2.2.2.2.1)) (chs_dg _ _)) (chs_1 ch_ck.2.2.2.2.2.1)) (chs_dg _ _)) (chs_1 ch_ck.2.2.2.2.2.2.2.1)) (chs_dg _ _)) ?_) ?_
  · split
    · exact chs_0
    · exact chs_1 ch_ck.2.2.2.2.2.2.2.2.1
  · split
    · exact chs_0
    · exact chs_app (chs_1 ch_ck.2.2.2.2.2.2.2.2.2) (chs_dg _ _)
theorem tW_len (t : TR) : (tW t).length ≤ 50 := by
  have h1 := dgW_len (t.2 1)
  have h2 := dgW_len (t.2 2)
  have h3 := dgW_len (t.2 3)
  have h4 := dgW_len (t.2 4)
  have h5 := dgW_len (t.2 10)
  unfold tW
  simp only [List.length_append, List.length_singleton, List.length_nil]
  split
  · split
    · simp only [List.length_nil]; omega
    · simp only [List.length_nil, List.length_append, List.length_singleton]; omega
  · split
    · simp only [List.length_nil, List.length_singleton]; omega
    · simp only [List.length_append, List.length_singleton]; omega
theorem WK_t {H : HS} {p : Nat} {L : LN} (w : WK H.1 p L) {t : SL} (h1 : has L.2.2.2.2 t.1) (h2 : tr L.2.2.2.2 t.1 = t.2) : gfd H 2 1 (p + 5 + t.1) = some (.int (t.2.2 1)) ∧ gfd H 2 2 (p + 5 + t.1) = some (.int (t.2.2 2)) ∧ gfd H 2 3 (p + 5 + t.1) = some (.int (t.2.2 3)) ∧ gfd H 2 4 (p + 5 + t.1) = some (.int (t.2.2 4)) ∧ gfd H 2 9 (p + 5 + t.1) = some (.int (t.2.2 9)) ∧ gfd H 2 10 (p + 5 + t.1) = some (.int (t.2.2 10)) := by
  obtain ⟨-, -, ⟨l, ws⟩, -, -⟩ := w
  replace l : put H.1 p L.1 L.2.1 L.2.2.1 L.2.2.2.1 L.2.2.2.2 = H.1 := l
  have e1 := tq1 l H.2 h1
  have e2 := tq2 l H.2 h1
  have e3 := tq3 l H.2 h1
  have e4 := tq4 l H.2 h1
  have e9 := tq9 l H.2 h1
  have e10 := tq10 l H.2 h1
  rw [h2] at e1 e2 e3 e4 e9 e10
  exact ⟨e1, e2, e3, e4, e9, e10⟩
theorem WK_5 {H : HS} {p : Nat} {L : LN} (w : WK H.1 p L) : gfd H 0 5 32 = some (.ref 170) := by
  obtain ⟨⟨x1, x2, x3, x4, x6, x7, x8, e⟩, -⟩ := w
  exact gfH e 5
theorem WK_rv {H : HS} {p : Nat} {L : LN} (w : WK H.1 p L) : recv H 32 0 = true := by
  obtain ⟨⟨x1, x2, x3, x4, x6, x7, x8, e⟩, -⟩ := w
  exact rvH e
theorem WK_sp {h0 : PH} {p : Nat} {L : LN} (w : WK h0 p L) (i n : Nat) (B : Nat → Int32) (x : Int32) : WK (sput h0 i n B x) p L := by
  obtain ⟨⟨x1, x2, x3, x4, x6, x7, x8, e⟩, hp, ⟨l, ws⟩, ck, nn⟩ := w
  have o2 : ∀ b, b < 170 → ∀ n', sput h0 i n' B x b = h0 b := fun b hb n' => sput_o _ _ _ _ _ (by omega) (by unfold bAd; split <;> omega)
  refine ⟨⟨x1, x2, x3, x4, x6, x7, x8, ?_⟩, hp, ⟨LAt_frame l ws (fun b b1 b2 => o2 b (by omega) _), ws⟩, fun b b1 b2 => ?_, nn⟩
  · rw [o2 32 (by decide)]; exact e
  · rw [o2 b (by omega)]; exact ck b b1 b2
section OUTC
variable {h0 : PH} {p : Nat} {L : LN} {c s i n : Nat} {B : Nat → Int32} {x : Int32}
theorem q140 (w0 : WK h0 p L) (hN : ∀ t, t ∈ L.2.2.2.2 → t.2.1 ≠ 1 → nbK t) {m : Nat} (hn : L.1 0 = I m) (h7 : m ≤ 7) (i3 : i ≤ 3) (n142 : n ≤ 142) (f : Nat → Int32) : ∃ H', rcal 140 [.ref 32] (sput h0 i n B x, rS c s i) = some (.inl (some (.int (I (moW L m m 0).length))), H') ∧ OS h0 f (moW L m m 0) c s H' := by
  obtain ⟨H0, e0, o0⟩ := OS_0 (h0 := h0) (n := n) (B := B) (i := i) (x := x) (c := c) (s := s) i3 n142 f
  have w6 : L.2.2.2.2.length = 6 := w0.2.2.1.2.1
  have hc := cnF_le L.2.2.2.2 m 0 (by omega)
  obtain ⟨H', e1, o1⟩ := l140 w0 hN hn h7 m 0 [] H0 (by omega) o0 (by rw [List.length_nil]; omega)
  rw [List.nil_append, cl_mo0] at e1 o1
  rw [show I 0 = 0 from rfl] at e1
  have w1 := WK_sp w0 i n B x
  have g5 := WK_5 (H := (sput h0 i n B x, rS c s i)) w1
  have rs : recv (sput h0 i n B x, rS c s i) 170 6 = true := rvS ..
  refine ⟨H', ?_, o1⟩
  simp only [c140, x140_0, x140_1, x140_4, x140_5, x140_8, x140_9, gk_some, pk_some, qk_some, bnd_v, bnd_n, kl_int, kl_ref, kl_null, kl_un, Nat.reduceAdd, if_true, if_false, g5, rs, e0, e1]
theorem q141 (w0 : WK h0 p L) {t : SL} (h1 : has L.2.2.2.2 t.1) (h2 : tr L.2.2.2.2 t.1 = t.2) (hk : tK t.2) (i3 : i ≤ 3) (n142 : n ≤ 142) (f : Nat → Int32) {v : Int32} (q124e : rcal 124 [.ref 32, .int v] (sput h0 i n B x, rS c s i) = some (.inl (some (.ref (p + 5 + t.1))), (sput h0 i n B x, rS c s i))) : ∃ H', rcal 141 [.ref 32, .int v] (sput h0 i n B x, rS c s i) = some (.inl (some (.int (I (tW t.2).length))), H') ∧ OS h0 f (tW t.2) c s H' := by
  obtain ⟨⟨a1, b1, d1⟩, ⟨a2, b2, d2⟩, ⟨a3, b3, d3⟩, ⟨a4, b4, d4⟩, ⟨a10, b10, d10⟩, hd⟩ := hk
  have ck := w0.2.2.2.1
  have l1 := dgW_len (t.2.2 1)
  have l2 := dgW_len (t.2.2 2)
  have l3 := dgW_len (t.2.2 3)
  have l4 := dgW_len (t.2.2 4)
  rw [b1, dgW_of d1] at l1
  rw [b2, dgW_of d2] at l2
  rw [b3, dgW_of d3] at l3
  rw [b4, dgW_of d4] at l4
  have w1 := WK_sp w0 i n B x
  have g5 := WK_5 (H := (sput h0 i n B x, rS c s i)) w1
  have rs : recv (sput h0 i n B x, rS c s i) 170 6 = true := rvS ..
  have r0 := WK_rv (H := (sput h0 i n B x, rS c s i)) w1
  obtain ⟨H0, e0, o0⟩ := OS_0 (h0 := h0) (n := n) (B := B) (i := i) (x := x) (c := c) (s := s) i3 n142 f
  obtain ⟨H1, e1, o1⟩ := OS_n o0 ck (by simp only [List.length_nil]; omega) d1
  obtain ⟨H2, e2, o2⟩ := OS_c o1 (by simp only [List.length_append, List.length_nil]; omega) sg_ck.2.2.2.2.2.2.1
  obtain ⟨H3, e3, o3⟩ := OS_n o2 ck (by simp only [List.length_append, List.length_nil, List.length_singleton]; omega) d2
  obtain ⟨H4, e4, o4⟩ := OS_c o3 (by simp only [List.length_append, List.length_nil, List.length_singleton]; omega) sg_ck.2.2.2.2.2.1
  obtain ⟨H5, e5, o5⟩ := OS_n o4 ck (by simp only [List.length_append, List.length_nil, List.length_singleton]; omega) d3
  obtain ⟨H6, e6, o6⟩ := OS_c o5 (by simp only [List.length_append, List.length_nil, List.length_singleton]; omega) sg_ck.2.2.2.2.2.2.2.1
  obtain ⟨H7, e7, o7⟩ := OS_n o6 ck (by simp only [List.length_append, List.length_nil, List.length_singleton]; omega) d4
  have f0 := WK_t (WK_OS w0 o0) h1 h2
  have f2 := WK_t (WK_OS w0 o2) h1 h2
  have f4 := WK_t (WK_OS w0 o4) h1 h2
  have f6 := WK_t (WK_OS w0 o6) h1 h2
  have f7 := WK_t (WK_OS w0 o7) h1 h2
  rw [b1, b2, b3, b4] at f0 f2 f4 f6 f7
  have k0 := WK_5 (WK_OS w0 o0)
  have k3 := WK_5 (WK_OS w0 o3)
  have k5 := WK_5 (WK_OS w0 o5)
  have k7 := WK_5 (WK_OS w0 o7)
  have p0 := OS_rv o0
  have p1 := OS_rv o1
  have p2 := OS_rv o2
  have p3 := OS_rv o3
  have p4 := OS_rv o4
  have p5 := OS_rv o5
  have p6 := OS_rv o6
  have p7 := OS_rv o7
  have pre : rcal 141 [.ref 32, .int v] (sput h0 i n B x, rS c s i) = rn 141 72 [.ref 32, .int v, .ref (p + 5 + t.1)] [] H7 := by
    simp only [c141, x141_0, x141_1, x141_2, x141_5, x141_6, x141_7, x141_10, x141_11, x141_14, x141_15, x141_18, x141_19, x141_22, x141_25, x141_27, x141_30, x141_31, x141_34, x141_37, x141_38, x141_39, x141_42, x141_44, x141_47, x141_48, x141_51, x141_54, x141_55, x141_56, x141_59, x141_61, x141_64, x141_65, x141_68, x141_71, gk_some, pk_some, qk_some, bnd_v, bnd_n, kl_int, kl_ref, kl_null, kl_un, Nat.reduceAdd, if_true, if_false, r0, q124e, g5, rs, e0, k0, f0.1, p0, e1, p1, e2, f2.2.1, p2, e3, k3, p3, e4, f4.2.2.1, p4, e5, k5, p5, e6, f6.2.2.2.1, p6, e7]
  have mid : ∃ H8, rn 141 72 [.ref 32, .int v, .ref (p + 5 + t.1)] [] H7 = rn 141 89 [.ref 32, .int v, .ref (p + 5 + t.1)] [] H8 ∧ OS h0 f ([] ++ dgW (t.2.2 1) ++ [58] ++ dgW (t.2.2 2) ++ [62] ++ dgW (t.2.2 3) ++ [64] ++ dgW (t.2.2 4) ++ (if t.2.2 9 = 0 then [] else [33])) c s H8 := by
    rw [b1, b2, b3, b4, dgW_of d1, dgW_of d2, dgW_of d3, dgW_of d4]
    by_cases q : t.2.2 9 = 0
    · rw [if_pos q, List.append_nil]
      refine ⟨H7, ?_, o7⟩
      have z := f7.2.2.2.2.1
      rw [q] at z
      simp only [x141_72, x141_73, x141_76, gk_some, pk_some, qk_some, bnd_v, bnd_n, kl_int, kl_ref, kl_null, kl_un, Nat.reduceAdd, if_true, if_false, z]
    · rw [if_neg q]
      obtain ⟨H8, e8, o8⟩ := OS_c o7 (by simp only [List.length_append, List.length_nil, List.length_singleton]; omega) sg_ck.2.2.2.2.2.2.2.2.1
      refine ⟨H8, ?_, o8⟩
      simp only [x141_72, x141_73, x141_76, x141_79, x141_80, x141_83, x141_85, x141_88, gk_some, pk_some, qk_some, bnd_v, bnd_n, kl_int, kl_ref, kl_null, kl_un, Nat.reduceAdd, if_true, if_false, f7.2.2.2.2.1, q, k7, p7, e8]
  obtain ⟨H8, m1, m2⟩ := mid
  have l8 : ([] ++ dgW (t.2.2 1) ++ [58] ++ dgW (t.2.2 2) ++ [62] ++ dgW (t.2.2 3) ++ [64] ++ dgW (t.2.2 4) ++ (if t.2.2 9 = 0 then [] else [33])).length ≤ 40 := by
    rw [b1, b2, b3, b4, dgW_of d1, dgW_of d2, dgW_of d3, dgW_of d4]
    split <;> simp only [List.length_append, List.length_nil, List.length_singleton] <;> omega
  have f8 := WK_t (WK_OS w0 m2) h1 h2
  have k8 := WK_5 (WK_OS w0 m2)
  have p8 := OS_rv m2
  rw [pre, m1]
  unfold tW
  by_cases q : t.2.2 10 = 0
  · rw [if_pos q, List.append_nil]
    have ol := OS_len m2
    have z := f8.2.2.2.2.2
    rw [q] at z
    refine ⟨H8, ?_, m2⟩
    simp only [x141_89, x141_90, x141_93, x141_113, x141_114, x141_117, x141_120, gk_some, pk_some, qk_some, bnd_v, bnd_n, kl_int, kl_ref, kl_null, kl_un, Nat.reduceAdd, if_true, if_false, z, k8, p8, ol]
  · rw [if_neg q, ← List.append_assoc, b10, dgW_of d10]
    obtain ⟨H9, e9, o9⟩ := OS_c m2 (by omega) sg_ck.2.2.2.2.2.2.2.2.2
    obtain ⟨H10, e10, o10⟩ := OS_n o9 ck (by rw [List.length_append, List.length_singleton]; omega) d10
    have f9 := (WK_t (WK_OS w0 o9) h1 h2).2.2.2.2.2
    rw [b10] at f9
    have p9 := OS_rv o9
    have k10 := WK_5 (WK_OS w0 o10)
    have p10 := OS_rv o10
    have ol := OS_len o10
    refine ⟨H10, ?_, o10⟩
    simp only [x141_89, x141_90, x141_93, x141_96, x141_97, x141_100, x141_102, x141_105, x141_106, x141_109, x141_112, x141_113, x141_114, x141_117, x141_120, gk_some, pk_some, qk_some, bnd_v, bnd_n, kl_int, kl_ref, kl_null, kl_un, Nat.reduceAdd, if_true, if_false, f8.2.2.2.2.2, q, k8, p8, e9, f9, p9, e10, k10, p10, ol]
theorem q142n (w0 : WK h0 p L) (n142 : n ≤ 142) {v : Int32} (hv : ¬ (¬ v < 0 ∧ v < I n)) : rcal 142 [.ref 32, .int v] (sput h0 i n B x, rS c s i) = some (.inr 0, hsx (sput h0 i n B x, rS c s i)) := by
  have w1 := WK_sp w0 i n B x
  have g5 := WK_5 (H := (sput h0 i n B x, rS c s i)) w1
  have rs : recv (sput h0 i n B x, rS c s i) 170 6 = true := rvS ..
  have t := m23S h0 i n B x c s
  by_cases q : v < 0
  · simp only [c142, x142_0, x142_1, x142_4, x142_5, x142_6, x142_9, x142_12, x142_15, x142_26, x142_27, x142_30, x142_31, x142_34, gk_some, pk_some, qk_some, bnd_v, bnd_n, kl_int, kl_ref, kl_null, kl_un, Nat.reduceAdd, if_true, if_false, q]
  · have q2 : ¬ v < I n := fun z => hv ⟨q, z⟩
    simp only [c142, x142_0, x142_1, x142_4, x142_5, x142_6, x142_9, x142_12, x142_15, x142_26, x142_27, x142_30, x142_31, x142_34, gk_some, pk_some, qk_some, bnd_v, bnd_n, kl_int, kl_ref, kl_null, kl_un, Nat.reduceAdd, if_true, if_false, q, g5, rs, t, q2]
theorem q142 (w0 : WK h0 p L) (i3 : i ≤ 3) (hn : n ≤ capN i) {k : Nat} (hk : k < n) (hc : chO (B k) = true) : rcal 142 [.ref 32, .int (I k)] (sput h0 i n B x, rS c s i) = some (.inl (some (.int (B k))), (sput h0 i n B x, rS c s i)) := by
  have hcc := cap_3 i i3
  have w1 := WK_sp w0 i n B x
  have g5 := WK_5 (H := (sput h0 i n B x, rS c s i)) w1
  have rs : recv (sput h0 i n B x, rS c s i) 170 6 = true := rvS ..
  have t := m23S h0 i n B x c s
  have t2 := m21S h0 i n B x c s i3 hn hk hc
  have q : ¬ I k < 0 := I_nn (by omega)
  have q2 : I k < I n := (I_lt (by omega) (by omega)).mpr hk
  have hc2 := hc
  unfold chO at hc2
  simp only [Bool.and_eq_true, decide_eq_true_eq] at hc2
  simp only [c142, x142_0, x142_1, x142_4, x142_5, x142_6, x142_9, x142_12, x142_15, x142_26, x142_27, x142_30, x142_31, x142_34, gk_some, pk_some, qk_some, bnd_v, bnd_n, kl_int, kl_ref, kl_null, kl_un, Nat.reduceAdd, if_true, if_false, q, g5, rs, t, q2, t2, hc2.2]
end OUTC
section OUTM
variable (h : PH) {p : Nat} (g : Nat → Int32) (A : Nat → Nat → Int32) (r : Nat × Nat × Nat)
theorem m239n (hp : 32 ≤ p) {P : List SL} (hT : TRel (A 1) P) {v : Int32} (hf : P.find? (numP v) = none) : rcal 239 [.ref p, .int v] (mput h p g A, r) = some (.inl (some (.int (-1))), (mput h p (up g 9 1) A, r)) := by
  have w9 := pm9 h g A r hp 0
  have t := m157 h (up g 9 0) A r (p := p) hT v
  rw [fidx_none 0 hf] at t
  have t2 := m150 h (up g 9 0) r hp A 1
  rw [up_up] at t2
  simp only [c239, x239_0, x239_1, x239_2, x239_5, x239_6, x239_7, x239_10, x239_11, x239_14, x239_15, x239_16, x239_19, x239_20, x239_21, x239_22, x239_25, x239_28, x239_29, x239_30, x239_31, x239_34, x239_35, x239_36, x239_39, x239_40, x239_42, x239_45, x239_46, x239_47, x239_50, x239_51, x239_52, x239_53, x239_54, x239_57, x239_58, x239_60, x239_63, x239_64, x239_65, x239_68, x239_69, x239_70, x239_71, x239_72, x239_75, x239_76, x239_78, x239_81, x239_82, x239_83, x239_86, x239_87, x239_88, x239_89, x239_90, x239_93, x239_94, x239_97, x239_98, x239_100, x239_101, x239_102, x239_103, x239_106, x239_107, x239_109, x239_112, x239_113, x239_116, x239_117, x239_119, x239_120, x239_121, x239_124, x239_125, x239_127, x239_130, x239_131, x239_132, x239_135, x239_136, x239_138, x239_139, x239_140, x239_143, x239_144, x239_147, gk_some, pk_some, qk_some, bnd_v, bnd_n, kl_int, kl_ref, kl_null, kl_un, Nat.reduceAdd, if_true, if_false, gm0, gm1, gm2, gm3, gm4, gm5, gm6, gm7, gm8, gm9, gm10, gm11, gm12, gm13, gm14, gm15, gm16, gm17, gm18, gm19, gm20, gm21, gm22, rvM, w9, t, t2]
theorem m239 (hp : 32 ≤ p) {P : List SL} (hT : TRel (A 1) P) {v : Int32} {t : SL} (hf : P.find? (numP v) = some t) (hk : tK t.2) : rcal 239 [.ref p, .int v] (mput h p g A, r) = some (.inl (some (.int (I (tW t.2).length))), (mW h p g A (tW t.2), r)) := by
  obtain ⟨⟨a1, b1, d1⟩, ⟨a2, b2, d2⟩, ⟨a3, b3, d3⟩, ⟨a4, b4, d4⟩, ⟨a10, b10, d10⟩, hd⟩ := hk
  have hv : t.2.2 1 = v := by have := List.find?_some hf; unfold numP at this; simpa using this
  obtain ⟨D, R, hP, hfi⟩ := fidx_some (q := numP v) (P := P) 0 hf
  have hD6 : D.length < 6 := by have := hT.2.1; rw [hP] at this; simp at this; omega
  have n9 : ¬ I D.length = -1 := fun y => by
    have y2 : Z (I D.length) = -1 := by rw [y]; rfl
    rw [Z_I (by omega)] at y2; omega
  have w9 := pm9 h g A r hp 0
  have w22 := mW_0 h g A r hp 0 0 0 [] []
  have tf := m157 h (up g 9 0) A r (p := p) hT v
  rw [hfi, Nat.zero_add] at tf
  have l1 := dgW_len (t.2.2 1)
  have l2 := dgW_len (t.2.2 2)
  have l3 := dgW_len (t.2.2 3)
  have l4 := dgW_len (t.2.2 4)
  rw [b1, dgW_of d1] at l1
  rw [b2, dgW_of d2] at l2
  rw [b3, dgW_of d3] at l3
  rw [b4, dgW_of d4] at l4
  have hrd : ∀ cs k, k < 9 → ald (mW h p g A cs, r) 100 (p + 1) (I (22 + 9 * D.length + k)) = some (.int (mt t.2 k)) := fun cs k hk => mrd h _ (ua A 11 (wr (A 11) 0 cs)) r (p := p) (by rw [ua_ne _ _ (by decide)]; exact hT) hP k hk
  have r1 := fun cs => hrd cs 1 (by decide)
  have r2 := fun cs => hrd cs 2 (by decide)
  have r3 := fun cs => hrd cs 3 (by decide)
  have r7 := fun cs => hrd cs 7 (by decide)
  have r8 := fun cs => hrd cs 8 (by decide)
  simp only [mt, b2] at r1
  simp only [mt, b3] at r2
  simp only [mt, b4] at r3
  simp only [mt] at r7
  simp only [mt, b10] at r8
  have e1 := mW_n h g A r hp (cs := []) (by simp only [List.length_nil]; omega) d1
  have e2 := mW_c h g A r hp (cs := [] ++ dgts a1 (tpd a1 8 0)) (by simp only [List.length_append, List.length_nil]; omega) 58
  have e3 := mW_n h g A r hp (cs := [] ++ dgts a1 (tpd a1 8 0) ++ [58]) (by simp only [List.length_append, List.length_nil, List.length_singleton]; omega) d2
  have e4 := mW_c h g A r hp (cs := [] ++ dgts a1 (tpd a1 8 0) ++ [58] ++ dgts a2 (tpd a2 8 0)) (by simp only [List.length_append, List.length_nil, List.length_singleton]; omega) 62
  have e5 := mW_n h g A r hp (cs := [] ++ dgts a1 (tpd a1 8 0) ++ [58] ++ dgts a2 (tpd a2 8 0) ++ [62]) (by simp only [List.length_append, List.length_nil, List.length_singleton]; omega) d3
  have e6 := mW_c h g A r hp (cs := [] ++ dgts a1 (tpd a1 8 0) ++ [58] ++ dgts a2 (tpd a2 8 0) ++ [62] ++ dgts a3 (tpd a3 8 0)) (by simp only [List.length_append, List.length_nil, List.length_singleton]; omega) 64
  have e7 := mW_n h g A r hp (cs := [] ++ dgts a1 (tpd a1 8 0) ++ [58] ++ dgts a2 (tpd a2 8 0) ++ [62] ++ dgts a3 (tpd a3 8 0) ++ [64]) (by simp only [List.length_append, List.length_nil, List.length_singleton]; omega) d4
  have pre : rcal 239 [.ref p, .int v] (mput h p g A, r) = rn 239 93 [.ref p, .int v, .int (I (22 + 9 * D.length))] [] (mW h p g A ([] ++ dgts a1 (tpd a1 8 0) ++ [58] ++ dgts a2 (tpd a2 8 0) ++ [62] ++ dgts a3 (tpd a3 8 0) ++ [64] ++ dgts a4 (tpd a4 8 0)), r) := by
    rw [← hv, b1] at tf ⊢
    simp only [c239, x239_0, x239_1, x239_2, x239_5, x239_6, x239_7, x239_10, x239_11, x239_20, x239_21, x239_22, x239_25, x239_28, x239_29, x239_30, x239_31, x239_34, x239_35, x239_36, x239_39, x239_40, x239_42, x239_45, x239_46, x239_47, x239_50, x239_51, x239_52, x239_53, x239_54, x239_57, x239_58, x239_60, x239_63, x239_64, x239_65, x239_68, x239_69, x239_70, x239_71, x239_72, x239_75, x239_76, x239_78, x239_81, x239_82, x239_83, x239_86, x239_87, x239_88, x239_89, x239_90, gk_some, pk_some, qk_some, bnd_v, bnd_n, kl_int, kl_ref, kl_null, kl_un, Nat.reduceAdd, if_true, if_false, gm0, gm1, gm2, gm3, gm4, gm5, gm6, gm7, gm8, gm9, gm10, gm11, gm12, gm13, gm14, gm15, gm16, gm17, gm18, gm19, gm20, gm21, gm22, rvM, I_1, Ia2, Ia3, Ia4, Ia5, Ia6, Ia7, Ia8, Ia9, Ia10, Ia11, Ia12, Il9, Il16, Il22, Il76, Im9, rvM, w9, tf, n9, m154, w22, e1, e2, r1, e3, e4, r2, e5, e6, r3, e7]
  have mid : rn 239 93 [.ref p, .int v, .int (I (22 + 9 * D.length))] [] (mW h p g A ([] ++ dgts a1 (tpd a1 8 0) ++ [58] ++ dgts a2 (tpd a2 8 0) ++ [62] ++ dgts a3 (tpd a3 8 0) ++ [64] ++ dgts a4 (tpd a4 8 0)), r) = rn 239 112 [.ref p, .int v, .int (I (22 + 9 * D.length))] [] (mW h p g A ([] ++ dgW (t.2.2 1) ++ [58] ++ dgW (t.2.2 2) ++ [62] ++ dgW (t.2.2 3) ++ [64] ++ dgW (t.2.2 4) ++ (if t.2.2 9 = 0 then [] else [33])), r) := by
    rw [b1, b2, b3, b4, dgW_of d1, dgW_of d2, dgW_of d3, dgW_of d4]
    have e8 := mW_c h g A r hp (cs := [] ++ dgts a1 (tpd a1 8 0) ++ [58] ++ dgts a2 (tpd a2 8 0) ++ [62] ++ dgts a3 (tpd a3 8 0) ++ [64] ++ dgts a4 (tpd a4 8 0)) (by simp only [List.length_append, List.length_nil, List.length_singleton]; omega) 33
    obtain q | q := hd
    · rw [if_pos q, List.append_nil]
      rw [q] at r7
      have n1 : ¬ (0 : Int32) = 1 := by decide
      simp only [x239_93, x239_94, x239_97, x239_98, x239_100, x239_101, x239_102, x239_103, gk_some, pk_some, qk_some, bnd_v, bnd_n, kl_int, kl_ref, kl_null, kl_un, Nat.reduceAdd, if_true, if_false, gm0, gm1, gm2, gm3, gm4, gm5, gm6, gm7, gm8, gm9, gm10, gm11, gm12, gm13, gm14, gm15, gm16, gm17, gm18, gm19, gm20, gm21, gm22, rvM, I_1, Ia2, Ia3, Ia4, Ia5, Ia6, Ia7, Ia8, Ia9, Ia10, Ia11, Ia12, Il9, Il16, Il22, Il76, Im9, r7, n1]
    · rw [if_neg (by rw [q]; decide)]
      rw [q] at r7
      simp only [x239_93, x239_94, x239_97, x239_98, x239_100, x239_101, x239_102, x239_103, x239_106, x239_107, x239_109, gk_some, pk_some, qk_some, bnd_v, bnd_n, kl_int, kl_ref, kl_null, kl_un, Nat.reduceAdd, if_true, if_false, gm0, gm1, gm2, gm3, gm4, gm5, gm6, gm7, gm8, gm9, gm10, gm11, gm12, gm13, gm14, gm15, gm16, gm17, gm18, gm19, gm20, gm21, gm22, rvM, I_1, Ia2, Ia3, Ia4, Ia5, Ia6, Ia7, Ia8, Ia9, Ia10, Ia11, Ia12, Il9, Il16, Il22, Il76, Im9, r7, rvM, e8]
  have l8 : ([] ++ dgW (t.2.2 1) ++ [58] ++ dgW (t.2.2 2) ++ [62] ++ dgW (t.2.2 3) ++ [64] ++ dgW (t.2.2 4) ++ (if t.2.2 9 = 0 then [] else [33])).length ≤ 40 := by
    rw [b1, b2, b3, b4, dgW_of d1, dgW_of d2, dgW_of d3, dgW_of d4]
    split <;> simp only [List.length_append, List.length_nil, List.length_singleton] <;> omega
  rw [pre, mid]
  unfold tW
  generalize [] ++ dgW (t.2.2 1) ++ [58] ++ dgW (t.2.2 2) ++ [62] ++ dgW (t.2.2 3) ++ [64] ++ dgW (t.2.2 4) ++ (if t.2.2 9 = 0 then [] else [33]) = cs at *
  by_cases q : t.2.2 10 = 0
  · rw [if_pos q, List.append_nil]
    have q0 : ¬ (0 : Int32) < I a10 := by rw [← b10, q]; decide
    simp only [x239_112, x239_113, x239_116, x239_117, x239_119, x239_120, x239_121, x239_143, x239_144, x239_147, gk_some, pk_some, qk_some, bnd_v, bnd_n, kl_int, kl_ref, kl_null, kl_un, Nat.reduceAdd, if_true, if_false, gm0, gm1, gm2, gm3, gm4, gm5, gm6, gm7, gm8, gm9, gm10, gm11, gm12, gm13, gm14, gm15, gm16, gm17, gm18, gm19, gm20, gm21, gm22, rvM, I_1, Ia2, Ia3, Ia4, Ia5, Ia6, Ia7, Ia8, Ia9, Ia10, Ia11, Ia12, Il9, Il16, Il22, Il76, Im9, r8, q0, up_eq]
  · rw [if_neg q, b10, dgW_of d10]
    have q0 : (0 : Int32) < I a10 := (I_lt (a := 0) (by decide) (by omega)).mpr (by
      rcases Nat.eq_zero_or_pos a10 with z | z
      · exact absurd (by rw [b10, z]; rfl) q
      · exact z)
    have e9 := mW_c h g A r hp (cs := cs) (by omega) 43
    have e10 := mW_n h g A r hp (cs := cs ++ [43]) (by rw [List.length_append, List.length_singleton]; omega) d10
    simp only [x239_112, x239_113, x239_116, x239_117, x239_119, x239_120, x239_121, x239_124, x239_125, x239_127, x239_130, x239_131, x239_132, x239_135, x239_136, x239_138, x239_139, x239_140, x239_143, x239_144, x239_147, gk_some, pk_some, qk_some, bnd_v, bnd_n, kl_int, kl_ref, kl_null, kl_un, Nat.reduceAdd, if_true, if_false, gm0, gm1, gm2, gm3, gm4, gm5, gm6, gm7, gm8, gm9, gm10, gm11, gm12, gm13, gm14, gm15, gm16, gm17, gm18, gm19, gm20, gm21, gm22, rvM, I_1, Ia2, Ia3, Ia4, Ia5, Ia6, Ia7, Ia8, Ia9, Ia10, Ia11, Ia12, Il9, Il16, Il22, Il76, Im9, rvM, r8, q0, e9, e10, up_eq, List.append_assoc]
theorem m240n (hp : 32 ≤ p) {n : Nat} (hn : n ≤ 120) (e : g 22 = I n) {v : Int32} (hv : ¬ (¬ v < 0 ∧ v < I n)) : rcal 240 [.ref p, .int v] (mput h p g A, r) = some (.inl (some (.int 65535)), (mput h p (up g 9 1) A, r)) := by
  have w9 := pm9 h g A r hp 0
  have e' : up g 9 0 22 = I n := by rw [up_ne _ _ (by decide)]; exact e
  have t := fun H => m151_0 v (I n - 1) H
  have d : ¬ (¬ v < 0 ∧ ¬ I n - 1 < v) := fun z => hv ⟨z.1, by
    have z2 := z.2
    have zn : Z (I n) = n := Z_I (by omega)
    rw [Z_lt, Z_sub (by rw [zn, Z_1]; omega) (by rw [zn, Z_1]; omega), zn, Z_1] at z2
    rw [Z_lt, zn]; omega⟩
  have t2 := m150 h (up g 9 0) r hp A 1
  rw [up_up] at t2
  have f1 : (((-1 : Int32).toUInt32 % 65536).toInt32) = 65535 := by decide +kernel
  have f2 : fitp 3 (.int 65535) = true := by decide +kernel
  simp only [c240, x240_0, x240_1, x240_2, x240_5, x240_6, x240_7, x240_8, x240_9, x240_12, x240_13, x240_14, x240_15, x240_18, x240_21, x240_22, x240_25, x240_26, x240_27, x240_28, x240_37, x240_31, x240_32, x240_33, x240_36, gk_some, pk_some, qk_some, bnd_v, bnd_n, kl_int, kl_ref, kl_null, kl_un, Nat.reduceAdd, if_true, if_false, gm0, gm1, gm2, gm3, gm4, gm5, gm6, gm7, gm8, gm9, gm10, gm11, gm12, gm13, gm14, gm15, gm16, gm17, gm18, gm19, gm20, gm21, gm22, rvM, w9, e', t, d, decide_false, b2i_f, t2, f1, f2]
theorem m240 (hp : 32 ≤ p) {n : Nat} (hn : n ≤ 120) (e : g 22 = I n) {k : Nat} (hk : k < n) (hc : chO (A 11 k) = true) : rcal 240 [.ref p, .int (I k)] (mput h p g A, r) = some (.inl (some (.int (A 11 k))), (mput h p (up g 9 0) A, r)) := by
  have w9 := pm9 h g A r hp 0
  have e' : up g 9 0 22 = I n := by rw [up_ne _ _ (by decide)]; exact e
  have t := fun H => m151_0 (I k) (I n - 1) H
  have zn : Z (I n) = n := Z_I (by omega)
  have zk : Z (I k) = k := Z_I (by omega)
  have d : ¬ I k < 0 ∧ ¬ I n - 1 < I k := ⟨I_nn (by omega), by
    rw [Z_lt, Z_sub (by rw [zn, Z_1]; omega) (by rw [zn, Z_1]; omega), zn, Z_1, zk]; omega⟩
  have o1 : ¬ (1 : Int32) = 0 := by decide
  have rd := rn11 h (up g 9 0) A r (p := p) (n := k) (by omega)
  unfold chO at hc
  simp only [Bool.and_eq_true, decide_eq_true_eq] at hc
  have f1 : ((A 11 k).toUInt32 % 65536).toInt32 = A 11 k := by
    have z := hc.2
    unfold fitp at z
    simp only [beq_iff_eq] at z
    exact z.symm
  simp only [c240, x240_0, x240_1, x240_2, x240_5, x240_6, x240_7, x240_8, x240_9, x240_12, x240_13, x240_14, x240_15, x240_18, x240_21, x240_22, x240_25, x240_26, x240_27, x240_28, x240_37, x240_31, x240_32, x240_33, x240_36, gk_some, pk_some, qk_some, bnd_v, bnd_n, kl_int, kl_ref, kl_null, kl_un, Nat.reduceAdd, if_true, if_false, gm0, gm1, gm2, gm3, gm4, gm5, gm6, gm7, gm8, gm9, gm10, gm11, gm12, gm13, gm14, gm15, gm16, gm17, gm18, gm19, gm20, gm21, gm22, rvM, w9, e', t, d, not_false_eq_true, and_self, decide_true, b2i_t, o1, rd, f1, hc.2]
end OUTM
