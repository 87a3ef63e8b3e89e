/-! forms are followed; commands are read -/
def flw (T : Nat → Int32) (n : Nat) : List Int32 → PS → Bool × PS
  | [], s => (true, s)
  | v :: F, s => if (fsg T n v s).1 = true then flw T n F (fsg T n v s).2 else (false, (fsg T n v s).2)
theorem flw_ok {T : Nat → Int32} {n : Nat} (h6 : n ≤ 60) : ∀ (F : List Int32) (s : PS), psOk s → psOk (flw T n F s).2
  | [], s, o => o
  | v :: F, s, o => by
    unfold flw
    split
    · exact flw_ok h6 F _ (fsg_ok h6 v o)
    · exact fsg_ok h6 v o
/-- the bytes of a form -/
def chO (v : Int32) : Bool := decide (((v &&& 255).toUInt32 % 65536).toInt32 = v) && fitp 3 (.int v)
section PARSE
variable (h : PH) (T : Nat → Int32) (c : Nat) (r : Nat × Nat × Nat)
theorem strA_PP {n k : Nat} {s : PS} {b q : Nat} {F : List Int32} (a : strA h b q F) (hb : b < 167) (hq : q < 167) : strA (PP h T c n k s) b q F := by
  unfold strA PP
  rw [pput_o _ _ _ _ _ (Or.inl hb), pput_o _ _ _ _ _ (Or.inl hq)]
  exact a
theorem l76 {n k : Nat} {b q : Nat} {F : List Int32} (h6 : n ≤ 60) (a : strA h b q F) (hb : b < 167) (hq : q < 167) (hl : F.length < 100) (hF : F.all chO = true) : ∀ (F2 : List Int32) (i : Nat) (s : PS), F.drop i = F2 → i ≤ F.length → psOk s → rn 76 7 [.ref 167, .ref b, .int (I i)] [] (PP h T c n k s, r) = some (.inl (some (.int (b2i (flw T n F2 s).1))), (PP h T c n k (flw T n F2 s).2, r)) := by
  intro F2
  induction F2 with
  | nil =>
    intro i s e hle o
    have a' := strA_PP h T c (n := n) (k := k) (s := s) a hb hq
    have e13 := m13 a' r
    have rv7 := rv_of a'.1 r
    have hi : F.length ≤ i := List.drop_eq_nil_iff.mp e
    have hn : ¬ I i < I F.length := fun z => by have := (I_lt (by omega) (by omega)).mp z; omega
    simp only [x76_7, x76_8, x76_9, x76_12, x76_35, x76_36, gk_some, pk_some, qk_some, bnd_v, bnd_n, kl_int, kl_ref, kl_null, kl_un, Nat.reduceAdd, if_true, if_false, rv7, e13, hn, flw, fit1, fit0, fitb, b2i_t, b2i_f, reduceIte, decide_true, decide_false]
  | cons v F2 ih =>
    intro i s e hle o
    have a' := strA_PP h T c (n := n) (k := k) (s := s) a hb hq
    have e13 := m13 a' r
    have rv7 := rv_of a'.1 r
    have hi : i < F.length := by
      rcases Nat.lt_or_ge i F.length with z | z
      · exact z
      · rw [List.drop_eq_nil_of_le z] at e; cases e
    have hn : I i < I F.length := (I_lt (by omega) (by omega)).mpr hi
    have hv : F[i]? = some v := by
      have z := List.getElem?_drop (xs := F) (i := i) (j := 0)
      rw [e] at z
      simpa using z.symm
    have hc : chO v = true := List.all_eq_true.mp hF v (List.mem_of_getElem? hv)
    unfold chO at hc
    simp only [Bool.and_eq_true, decide_eq_true_eq] at hc
    have e14 := m14 a' r hv hl hc.1 hc.2
    have rv4 : recv (PP h T c n k s, r) 167 4 = true := rvP ..
    have e77 := q77 h T c r (k := k) h6 o v
    have e2 : F.drop (i + 1) = F2 := by
      have z := List.drop_drop (l := F) (i := 1) (j := i)
      rw [e] at z
      simpa using z.symm
    have i2 := ih (i + 1) (fsg T n v s).2 e2 hi (fsg_ok h6 v o)
    rw [x76_7, x76_8, x76_9 (h := rv7), e13]
    simp only [gk_some, pk_some, qk_some, bnd_v, bnd_n, kl_int, kl_ref, kl_null, kl_un, Nat.reduceAdd, if_true, if_false, x76_12, x76_15, x76_16, x76_17, x76_18, x76_21, x76_24, x76_27, x76_28, x76_29, x76_32, rv7, rv4, hn, e14, e77, flw]
    cases w : (fsg T n v s).1 with
    | true =>
      have o1 : ¬ b2i true = 0 := by decide
      simp only [o1, if_true, if_false, I_1, i2]
    | false =>
      have o1 : b2i false = 0 := rfl
      simp only [o1, if_true, if_false, fit0, Bool.false_eq_true]
theorem q76 {n k : Nat} {b q : Nat} {F : List Int32} {s : PS} (h6 : n ≤ 60) (a : strA h b q F) (hb : b < 167) (hq : q < 167) (hl : F.length < 100) (hF : F.all chO = true) (o : psOk s) : rcal 76 [.ref 167, .ref b] (PP h T c n k s, r) = some (.inl (some (.int (b2i (flw T n F (s.1, s.2.1, 0)).1))), (PP h T c n k (flw T n F (s.1, s.2.1, 0)).2, r)) := by
  have w6 := wp6 h T s.2.1 (gP n s.1 k s.2.2) c r 0
  rw [gP_u60] at w6
  have w6' : pfd (PP h T c n k s, r) true 4 6 167 (.int 0) = some (PP h T c n k (s.1, s.2.1, 0), r) := w6
  have l := l76 h T c r (k := k) h6 a hb hq hl hF F 0 (s.1, s.2.1, 0) rfl (Nat.zero_le _) ⟨o.1, Nat.zero_le _⟩
  rw [show I 0 = 0 from rfl] at l
  simp only [c76, x76_0, x76_1, x76_2, x76_5, x76_6, gk_some, pk_some, qk_some, bnd_v, bnd_n, kl_int, kl_ref, kl_null, kl_un, Nat.reduceAdd, if_true, if_false, w6', l]
end PARSE
