/-! forms are followed; commands are read -/
def flw (T : Nat → Int32) (n : Nat) : List Int32 → PS → Bool × PS
  | [], s => (true, s)
  | v :: F, s => if (fsg T n v s).1 = true then flw T n F (fsg T n v s).2 else (false, (fsg T n v s).2)
theorem flw_ok {T : Nat → Int32} {n : Nat} (h6 : n ≤ 60) : ∀ (F : List Int32) (s : PS), psOk s → psOk (flw T n F s).2
  | [], s, o => o
  | v :: F, s, o => by
    unfold flw
    split
    · exact flw_ok h6 F _ (fsg_ok h6 v o)
    · exact fsg_ok h6 v o
/-- the bytes of a form -/
def chO (v : Int32) : Bool := decide (((v &&& 255).toUInt32 % 65536).toInt32 = v) && fitp 3 (.int v)
section PARSE
variable (h : PH) (T : Nat → Int32) (c : Nat) (r : Nat × Nat × Nat)
theorem strA_PP {n k : Nat} {s : PS} {b q : Nat} {F : List Int32} (a : strA h b q F) (hb : b < 167) (hq : q < 167) : strA (PP h T c n k s) b q F := by
  unfold strA PP
  rw [pput_o _ _ _ _ _ (Or.inl hb), pput_o _ _ _ _ _ (Or.inl hq)]
  exact a
theorem l76 {n k : Nat} {b q : Nat} {F : List Int32} (h6 : n ≤ 60) (a : strA h b q F) (hb : b < 167) (hq : q < 167) (hl : F.length < 100) (hF : F.all chO = true) : ∀ (F2 : List Int32) (i : Nat) (s : PS), F.drop i = F2 → i ≤ F.length → psOk s → rn 76 7 [.ref 167, .ref b, .int (I i)] [] (PP h T c n k s, r) = some (.inl (some (.int (b2i (flw T n F2 s).1))), (PP h T c n k (flw T n F2 s).2, r)) := by
  intro F2
  induction F2 with
  | nil =>
    intro i s e hle o
    have a' := strA_PP h T c (n := n) (k := k) (s := s) a hb hq
    have e13 := m13 a' r
    have rv7 := rv_of a'.1 r
    have hi : F.length ≤ i := List.drop_eq_nil_iff.mp e
    have hn : ¬ I i < I F.length := fun z => by have := (I_lt (by omega) (by omega)).mp z; omega
    simp only [x76_7, x76_8, x76_9, x76_12, x76_35, x76_36, gk_some, pk_some, qk_some, bnd_v, bnd_n, kl_int, kl_ref, kl_null, kl_un, Nat.reduceAdd, if_true, if_false, rv7, e13, hn, flw, fit1, fit0, fitb, b2i_t, b2i_f, reduceIte, decide_true, decide_false]
  | cons v F2 ih =>
    intro i s e hle o
    have a' := strA_PP h T c (n := n) (k := k) (s := s) a hb hq
    have e13 := m13 a' r
    have rv7 := rv_of a'.1 r
    have hi : i < F.length := by
      rcases Nat.lt_or_ge i F.length with z | z
      · exact z
      · rw [List.drop_eq_nil_of_le z] at e; cases e
    have hn : I i < I F.length := (I_lt (by omega) (by omega)).mpr hi
    have hv : F[i]? = some v := by
      have z := List.getElem?_drop (xs := F) (i := i) (j := 0)
      rw [e] at z
      simpa using z.symm
    have hc : chO v = true := List.all_eq_true.mp hF v (List.mem_of_getElem? hv)
    unfold chO at hc
    simp only [Bool.and_eq_true, decide_eq_true_eq] at hc
    have e14 := m14 a' r hv hl hc.1 hc.2
    have rv4 : recv (PP h T c n k s, r) 167 4 = true := rvP ..
    have e77 := q77 h T c r (k := k) h6 o v
    have e2 : F.drop (i + 1) = F2 := by
      have z := List.drop_drop (l := F) (i := 1) (j := i)
      rw [e] at z
      simpa using z.symm
    have i2 := ih (i + 1) (fsg T n v s).2 e2 hi (fsg_ok h6 v o)
    rw [x76_7, x76_8, x76_9 (h := rv7), e13]
    simp only [gk_some, pk_some, qk_some, bnd_v, bnd_n, kl_int, kl_ref, kl_null, kl_un, Nat.reduceAdd, if_true, if_false, x76_12, x76_15, x76_16, x76_17, x76_18, x76_21, x76_24, x76_27, x76_28, x76_29, x76_32, rv7, rv4, hn, e14, e77, flw]
    cases w : (fsg T n v s).1 with
    | true =>
      have o1 : ¬ b2i true = 0 := by decide
      simp only [o1, if_true, if_false, I_1, i2]
    | false =>
      have o1 : b2i false = 0 := rfl
      simp only [o1, if_true, if_false, fit0, Bool.false_eq_true]
theorem q76 {n k : Nat} {b q : Nat} {F : List Int32} {s : PS} (h6 : n ≤ 60) (a : strA h b q F) (hb : b < 167) (hq : q < 167) (hl : F.length < 100) (hF : F.all chO = true) (o : psOk s) : rcal 76 [.ref 167, .ref b] (PP h T c n k s, r) = some (.inl (some (.int (b2i (flw T n F (s.1, s.2.1, 0)).1))), (PP h T c n k (flw T n F (s.1, s.2.1, 0)).2, r)) := by
  have w6 := wp6 h T s.2.1 (gP n s.1 k s.2.2) c r 0
  rw [gP_u60] at w6
  have w6' : pfd (PP h T c n k s, r) true 4 6 167 (.int 0) = some (PP h T c n k (s.1, s.2.1, 0), r) := w6
  have l := l76 h T c r (k := k) h6 a hb hq hl hF F 0 (s.1, s.2.1, 0) rfl (Nat.zero_le _) ⟨o.1, Nat.zero_le _⟩
  rw [show I 0 = 0 from rfl] at l
  simp only [c76, x76_0, x76_1, x76_2, x76_5, x76_6, gk_some, pk_some, qk_some, bnd_v, bnd_n, kl_int, kl_ref, kl_null, kl_un, Nat.reduceAdd, if_true, if_false, w6', l]
end PARSE
def forms : List (List Int32) := [[115, 116, 97, 116, 105, 111, 110, 32, 35, 32, 37], [116, 114, 97, 99, 107, 115, 32, 35, 32, 35], [116, 114, 97, 105, 110, 32, 35, 32, 35, 32, 37], [104, 111, 108, 100, 32, 37], [103, 111, 32, 37], [99, 97, 110, 99, 101, 108, 32, 37], [119, 97, 105, 116, 32, 37]]
theorem forms_ck {h : PH} (ck : CK h) {i : Nat} (hi : i < 7) : ∃ F, forms[i]? = some F ∧ h (5 + i) = some (8, [.int (I i), .ref (14 + i)]) ∧ strA h (14 + i) (21 + i) F ∧ F.length < 100 ∧ F.all chO = true := by
  rcases (by omega : i = 0 ∨ i = 1 ∨ i = 2 ∨ i = 3 ∨ i = 4 ∨ i = 5 ∨ i = 6) with rfl | rfl | rfl | rfl | rfl | rfl | rfl
  · exact ⟨_, rfl, ck 5 (by decide) (by decide), ⟨ck 14 (by decide) (by decide), ck 21 (by decide) (by decide)⟩, by decide, by decide⟩
  · exact ⟨_, rfl, ck 6 (by decide) (by decide), ⟨ck 15 (by decide) (by decide), ck 22 (by decide) (by decide)⟩, by decide, by decide⟩
  · exact ⟨_, rfl, ck 7 (by decide) (by decide), ⟨ck 16 (by decide) (by decide), ck 23 (by decide) (by decide)⟩, by decide, by decide⟩
  · exact ⟨_, rfl, ck 8 (by decide) (by decide), ⟨ck 17 (by decide) (by decide), ck 24 (by decide) (by decide)⟩, by decide, by decide⟩
  · exact ⟨_, rfl, ck 9 (by decide) (by decide), ⟨ck 18 (by decide) (by decide), ck 25 (by decide) (by decide)⟩, by decide, by decide⟩
  · exact ⟨_, rfl, ck 10 (by decide) (by decide), ⟨ck 19 (by decide) (by decide), ck 26 (by decide) (by decide)⟩, by decide, by decide⟩
  · exact ⟨_, rfl, ck 11 (by decide) (by decide), ⟨ck 20 (by decide) (by decide), ck 27 (by decide) (by decide)⟩, by decide, by decide⟩
def rdL (T : Nat → Int32) (n p0 : Nat) : List (List Int32) → Nat → Nat → PS → Option Nat × PS
  | [], _, b, s => (none, (b, s.2))
  | F :: fs, i, b, s => if (flw T n F (p0, s.2.1, 0)).1 = true then (some i, (flw T n F (p0, s.2.1, 0)).2) else rdL T n p0 fs (i + 1) (max b (flw T n F (p0, s.2.1, 0)).2.1) (flw T n F (p0, s.2.1, 0)).2
theorem rdL_ok {T : Nat → Int32} {n p0 : Nat} (h6 : n ≤ 60) (hp : p0 ≤ 60) : ∀ (fs : List (List Int32)) (i b : Nat) (s : PS), b ≤ 60 → s.2.2 ≤ 3 → psOk (rdL T n p0 fs i b s).2
  | [], i, b, s, hb, o => ⟨hb, o⟩
  | F :: fs, i, b, s, hb, o => by
    have w := flw_ok (T := T) h6 F (p0, s.2.1, 0) ⟨hp, Nat.zero_le _⟩
    unfold rdL
    split
    · exact w
    · exact rdL_ok h6 hp fs (i + 1) _ _ (by have := w.1; omega) w.2
theorem I_mx60 {a b : Nat} (ha : a ≤ 60) (hb : b ≤ 60) : (if I a < I b then I b else I a) = I (max a b) := by
  by_cases q : a < b
  · rw [if_pos ((I_lt (by omega) (by omega)).mpr q), Nat.max_eq_right (by omega)]
  · rw [if_neg (fun z => q ((I_lt (by omega) (by omega)).mp z)), Nat.max_eq_left (by omega)]
/-- the command that the program's object names after a reading -/
def cmR (c : Nat) (o : Option Nat) : Nat := match o with
  | some i => 5 + i
  | none => c
section READ
variable (h : PH) (T : Nat → Int32) (c : Nat) (r : Nat × Nat × Nat)
theorem l75 {n k p0 : Nat} (h6 : n ≤ 60) (hp : p0 ≤ 60) (ck : CK h) : ∀ (fs : List (List Int32)) (i b : Nat) (s : PS) (u : Value), forms.drop i = fs → i ≤ 7 → b ≤ 60 → psOk s → rn 75 18 [.ref 167, .int (I p0), .int (I b), .ref 12, .int 7, .int (I i), u] [] (PP h T c n k s, r) = some (.inl (some (.int (b2i (rdL T n p0 fs i b s).1.isSome))), (PP h T (cmR c (rdL T n p0 fs i b s).1) n k (rdL T n p0 fs i b s).2, r)) := by
  intro fs
  induction fs with
  | nil =>
    intro i b s u e hi hb o
    have hle : 7 ≤ i := List.drop_eq_nil_iff.mp e
    have hn : ¬ I i < 7 := fun z => by have := (I_lt (b := 7) (by omega) (by decide)).mp z; omega
    have w2 := wp2 h T s.2.1 (gP n s.1 k s.2.2) c r (I b)
    rw [gP_u2] at w2
    have w2' : pfd (PP h T c n k s, r) true 4 2 167 (.int (I b)) = some (PP h T c n k (b, s.2), r) := w2
    simp only [x75_18, x75_20, x75_22, x75_71, x75_72, x75_73, x75_76, x75_77, gk_some, pk_some, qk_some, bnd_v, bnd_n, kl_int, kl_ref, kl_null, kl_un, Nat.reduceAdd, if_true, if_false, hn, w2', fit0, rdL, cmR]
    rfl
  | cons F fs ih =>
    intro i b s u e hi hb o
    have hlt : i < 7 := by
      rcases Nat.lt_or_ge i 7 with z | z
      · exact z
      · rw [List.drop_eq_nil_of_le (by exact z)] at e; cases e
    have hn : I i < 7 := (I_lt (b := 7) (by omega) (by decide)).mpr hlt
    obtain ⟨F', f1, f2, f3, f4, f5⟩ := forms_ck ck hlt
    have hF : forms[i]? = some F := by
      have z := List.getElem?_drop (xs := forms) (i := i) (j := 0)
      rw [e] at z
      simpa using z.symm
    have e2 : forms.drop (i + 1) = fs := by
      have z := List.drop_drop (l := forms) (i := 1) (j := i)
      rw [e] at z
      simpa using z.symm
    have eF : F' = F := by rw [hF] at f1; exact (Option.some.inj f1).symm
    subst eF
    have c12 : PP h T c n k s 12 = some (107, [.ref 5, .ref 6, .ref 7, .ref 8, .ref 9, .ref 10, .ref 11]) := by
      unfold PP; rw [pput_o _ _ _ _ _ (Or.inl (by decide))]; exact ck 12 (by decide) (by decide)
    have a12 : aald (PP h T c n k s, r) 12 (I i) = some (.ref (5 + i)) := by
      unfold aald
      simp only [c12]
      rw [if_pos ⟨rfl, fun z => z.elim (I_nn (by omega)) (fun z => by rw [I_nat (by omega)] at z; exact absurd z (by simp; omega))⟩, I_nat (by omega)]
      rcases (by omega : i = 0 ∨ i = 1 ∨ i = 2 ∨ i = 3 ∨ i = 4 ∨ i = 5 ∨ i = 6) with rfl | rfl | rfl | rfl | rfl | rfl | rfl <;> rfl
    have w2 := wp2 h T s.2.1 (gP n s.1 k s.2.2) c r (I p0)
    rw [gP_u2] at w2
    have w2' : pfd (PP h T c n k s, r) true 4 2 167 (.int (I p0)) = some (PP h T c n k (p0, s.2), r) := w2
    have c5 : PP h T c n k (p0, s.2) (5 + i) = some (8, [.int (I i), .ref (14 + i)]) := by
      unfold PP; rw [pput_o _ _ _ _ _ (Or.inl (by omega))]; exact f2
    have g1 := gf_of c5 r 1
    have rv4 : recv (PP h T c n k (p0, s.2), r) 167 4 = true := rvP ..
    have o0 : psOk (p0, s.2) := ⟨hp, o.2⟩
    have e76 := q76 h T c r (k := k) h6 f3 (by omega) (by omega) f4 f5 o0
    have wo := flw_ok (T := T) h6 F' (p0, s.2.1, 0) ⟨hp, Nat.zero_le _⟩
    rw [x75_18, x75_20, x75_22, if_pos hn]
    simp only [x75_25, x75_26, x75_28, x75_29, x75_31, x75_32, x75_33, x75_36, x75_37, x75_39, x75_42, gk_some, pk_some, qk_some, bnd_v, bnd_n, kl_int, kl_ref, kl_null, kl_un, Nat.reduceAdd, if_true, if_false, a12, w2', g1, List.getElem?_cons_zero, List.getElem?_cons_succ, rv4, e76]
    cases q : (flw T n F' (p0, s.2.1, 0)).1 with
    | true =>
      have w4 := wp4 h T (flw T n F' (p0, s.2.1, 0)).2.2.1 (gP n (flw T n F' (p0, s.2.1, 0)).2.1 k (flw T n F' (p0, s.2.1, 0)).2.2.2) c r (5 + i)
      have w4' : pfd (PP h T c n k (flw T n F' (p0, s.2.1, 0)).2, r) true 4 4 167 (.ref (5 + i)) = some (PP h T (5 + i) n k (flw T n F' (p0, s.2.1, 0)).2, r) := w4
      have o1 : ¬ b2i true = 0 := by decide
      simp only [x75_45, x75_48, x75_49, x75_51, x75_54, x75_55, gk_some, pk_some, qk_some, bnd_v, bnd_n, kl_int, kl_ref, kl_null, kl_un, Nat.reduceAdd, if_true, if_false, o1, w4', fit1, rdL, q, cmR]
      rfl
    | false =>
      have o1 : b2i false = 0 := rfl
      have g2 := gp2 h T (flw T n F' (p0, s.2.1, 0)).2.2.1 (gP n (flw T n F' (p0, s.2.1, 0)).2.1 k (flw T n F' (p0, s.2.1, 0)).2.2.2) c r
      have g2' : gfd (PP h T c n k (flw T n F' (p0, s.2.1, 0)).2, r) 4 2 167 = some (.int (I (flw T n F' (p0, s.2.1, 0)).2.1)) := g2
      have i2 := ih (i + 1) (max b (flw T n F' (p0, s.2.1, 0)).2.1) (flw T n F' (p0, s.2.1, 0)).2 (.ref (5 + i)) e2 hlt (by have := wo.1; omega) wo
      simp only [x75_45, x75_56, x75_57, x75_58, x75_61, x75_64, x75_65, x75_68, gk_some, pk_some, qk_some, bnd_v, bnd_n, kl_int, kl_ref, kl_null, kl_un, Nat.reduceAdd, if_true, if_false, o1, g2', I_mx60 hb wo.1, I_1, i2, rdL, q, Bool.false_eq_true]
theorem q75 {n k : Nat} {s : PS} (h6 : n ≤ 60) (ck : CK h) (o : psOk s) : rcal 75 [.ref 167] (PP h T c n k s, r) = some (.inl (some (.int (b2i (rdL T n s.1 forms 0 s.1 s).1.isSome))), (PP h T (cmR c (rdL T n s.1 forms 0 s.1 s).1) n k (rdL T n s.1 forms 0 s.1 s).2, r)) := by
  have g2 : gfd (PP h T c n k s, r) 4 2 167 = some (.int (I s.1)) := gp2 ..
  have c12 : PP h T c n k s 12 = some (107, [.ref 5, .ref 6, .ref 7, .ref 8, .ref 9, .ref 10, .ref 11]) := by
    unfold PP; rw [pput_o _ _ _ _ _ (Or.inl (by decide))]; exact ck 12 (by decide) (by decide)
  have al : alen (PP h T c n k s, r) 12 = some (.int 7) := by
    unfold alen; simp only [c12]; rfl
  have l := l75 h T c r (k := k) (p0 := s.1) h6 o.1 ck forms 0 s.1 s un rfl (by decide) o.1 o
  rw [show I 0 = 0 from rfl] at l
  simp only [c75, x75_0, x75_1, x75_4, x75_5, x75_6, x75_7, x75_10, x75_11, x75_12, x75_13, x75_15, x75_16, gk_some, pk_some, qk_some, bnd_v, bnd_n, kl_int, kl_ref, kl_null, kl_un, Nat.reduceAdd, if_true, if_false, g2, al, l]
end READ
