/-! the class's program is read: signs, forms, commands -/
theorem k27 (a b : Int32) (H : HS) : rcal 27 [.int a, .int b, .retAddr 1] H = rn 27 0 [.int a, .int b, .retAddr 1] [] H := rfl
theorem m17 {a b : Int32} (h0 : ¬ a < 0) (h1 : a < b) (H : HS) : rcal 17 [.int a, .int b] H = some (.inl none, H) := by
  simp only [c17, x17_0, x17_1, x17_2, x17_5, x17_8, x17_9, gk_some, pk_some, qk_some, bnd_v, bnd_n, kl_int, kl_ref, kl_null, kl_un, Nat.reduceAdd, if_true, if_false, k27, x27_0, x27_1, x27_4, x27_5, x27_6, x27_16, x27_17, h0, h1]
/-- a string at b: its bytes -/
def strA (h : PH) (b q : Nat) (bs : List Int32) : Prop := h b = some (7, [.ref q, .int 0]) ∧ h q = some (102, bs.map .int)
theorem m13 {h : PH} {b q : Nat} {bs : List Int32} (s : strA h b q bs) (r : Nat × Nat × Nat) : rcal 13 [.ref b] (h, r) = some (.inl (some (.int (I bs.length))), (h, r)) := by
  obtain ⟨a, c⟩ := s
  have g0 := gf_of a r 0
  have g1 := gf_of a r 1
  have rv := rv_of a r
  have al : alen (h, r) q = some (.int (I bs.length)) := by simp [alen, c]
  have o1 : ¬ (1 : Int32) = 0 := by decide
  have o2 : fitp 2 (.int 0) = true := rfl
  have o3 : I bs.length >>> ((0 : Int32) &&& 31) = I bs.length := by
    rw [show (0 : Int32) &&& 31 = 0 by decide]
    exact Int32.toBitVec_inj.mp (by simp)
  simp only [c13, x13_0, x13_1, x13_4, x13_5, x13_6, x13_9, x13_10, c15, x15_0, x15_3, x15_6, x15_7, x15_10, x15_14, x15_13, gk_some, pk_some, qk_some, bnd_v, bnd_n, kl_int, kl_ref, kl_null, kl_un, Nat.reduceAdd, if_true, if_false, g0, g1, List.getElem?_cons_zero, List.getElem?_cons_succ, rv, al, o1, o2, o3]
theorem m14 {h : PH} {b q : Nat} {bs : List Int32} (s : strA h b q bs) (r : Nat × Nat × Nat) {i : Nat} {v : Int32} (hi : bs[i]? = some v) (hl : bs.length < 100) (hv : ((v &&& 255).toUInt32 % 65536).toInt32 = v) (hf : fitp 3 (.int v) = true) : rcal 14 [.ref b, .int (I i)] (h, r) = some (.inl (some (.int v)), (h, r)) := by
  obtain ⟨a, c⟩ := s
  have g0 := gf_of a r 0
  have g1 := gf_of a r 1
  have rv := rv_of a r
  have hin : i < bs.length := by
    rcases Nat.lt_or_ge i bs.length with z | z
    · exact z
    · rw [List.getElem?_eq_none z] at hi; cases hi
  have al : alen (h, r) q = some (.int (I bs.length)) := by simp [alen, c]
  have o0 : ¬ (1 : Int32) = 0 := by decide
  have o1 : fitp 1 (.int 1) = true := rfl
  have k17 := fun H => m17 (a := I i) (b := I bs.length) (I_nn (by omega)) ((I_lt (by omega) (by omega)).mpr hin) H
  have ad : ald (h, r) 102 q (I i) = some (.int v) := by
    unfold ald
    simp only [c, List.length_map]
    rw [if_pos ⟨trivial, fun z => z.elim (I_nn (by omega)) (fun z => by rw [I_nat (by omega)] at z; omega), by omega⟩, I_nat (by omega), List.getElem?_map, hi]
    rfl
  simp only [c14, x14_0, x14_1, x14_4, x14_7, x14_8, x14_11, x14_12, x14_15, x14_16, x14_17, x14_20, c16, x16_0, x16_3, x16_6, x16_7, x16_10, x16_13, x16_14, x16_18, x16_17, c24, x24_0, x24_1, x24_2, x24_3, x24_6, x24_7, x24_8, x24_9, x24_12, x24_13, x24_14, gk_some, pk_some, qk_some, bnd_v, bnd_n, kl_int, kl_ref, kl_null, kl_un, Nat.reduceAdd, if_true, if_false, g0, g1, List.getElem?_cons_zero, List.getElem?_cons_succ, rv, al, o0, o1, k17, ad, hv, hf]
/-- the parser's numbers -/
def gP (n p k a : Nat) : Nat → Int32 := fun i => if i = 1 then I n else if i = 2 then I p else if i = 3 then I k else if i = 6 then I a else 0
theorem gP_1 (n p k a : Nat) : gP n p k a 1 = I n := rfl
theorem gP_2 (n p k a : Nat) : gP n p k a 2 = I p := rfl
theorem gP_3 (n p k a : Nat) : gP n p k a 3 = I k := rfl
theorem gP_6 (n p k a : Nat) : gP n p k a 6 = I a := rfl
theorem gP_u1 (n p k a q : Nat) : up (gP n p k a) 1 (I q) = gP q p k a := by
  funext i; simp only [up, gP]; split <;> rfl
theorem gP_u2 (n p k a q : Nat) : up (gP n p k a) 2 (I q) = gP n q k a := by
  funext i; simp only [up, gP]; split
  · next e => subst e; rfl
  · rfl
theorem gP_u3 (n p k a q : Nat) : up (gP n p k a) 3 (I q) = gP n p q a := by
  funext i; simp only [up, gP]; split
  · next e => subst e; rfl
  · rfl
theorem gP_u6 (n p k a q : Nat) : up (gP n p k a) 6 (I q) = gP n p k q := by
  funext i; simp only [up, gP]; split
  · next e => subst e; rfl
  · rfl
theorem gP_u20 (n p k a : Nat) : up (gP n p k a) 2 0 = gP n 0 k a := gP_u2 n p k a 0
theorem gP_u10 (n p k a : Nat) : up (gP n p k a) 1 0 = gP 0 p k a := gP_u1 n p k a 0
theorem gP_u30 (n p k a : Nat) : up (gP n p k a) 3 0 = gP n p 0 a := gP_u3 n p k a 0
theorem gP_u60 (n p k a : Nat) : up (gP n p k a) 6 0 = gP n p k 0 := gP_u6 n p k a 0
/-- where, the numbers, how many -/
abbrev PS : Type := Nat × (Nat → Int32) × Nat
def tkR (T : Nat → Int32) (n m : Nat) (s : PS) : Bool × PS := (tkN T n m s.1 s.2.2, (numR T n m 0 s.1 0).2.1, (if tkN T n m s.1 s.2.2 = true then up s.2.1 s.2.2 (numR T n m 0 s.1 0).2.2 else s.2.1), (if tkN T n m s.1 s.2.2 = true then s.2.2 + 1 else s.2.2))
def fsg (T : Nat → Int32) (n : Nat) (c : Int32) (s : PS) : Bool × PS := if c = 35 then tkR T n 1 s else if c = 37 then tkR T n 2 s else (sgn T n c s.1, (if sgn T n c s.1 = true then s.1 + 1 else s.1), s.2)
def psOk (s : PS) : Prop := s.1 ≤ 60 ∧ s.2.2 ≤ 3
theorem fsg_ok {T : Nat → Int32} {n : Nat} (h6 : n ≤ 60) (c : Int32) {s : PS} (o : psOk s) : psOk (fsg T n c s).2 := by
  have k : ∀ m, psOk (tkR T n m s).2 := by
    intro m
    refine ⟨(numR_p (T := T) n m 0 s.1 0 o.1 h6).1, ?_⟩
    show (if tkN T n m s.1 s.2.2 = true then s.2.2 + 1 else s.2.2) ≤ 3
    split
    · next q =>
      unfold tkN at q; simp only [Bool.and_eq_true, decide_eq_true_eq] at q; omega
    · exact o.2
  unfold fsg
  split
  · exact k 1
  · split
    · exact k 2
    · refine ⟨?_, o.2⟩
      show (if sgn T n c s.1 = true then s.1 + 1 else s.1) ≤ 60
      split
      · next q => unfold sgn at q; simp only [Bool.and_eq_true, decide_eq_true_eq] at q; omega
      · exact o.1
section PARSE
variable (h : PH) (T : Nat → Int32) (c : Nat) (r : Nat × Nat × Nat)
/-- the program in the heap, at a state of the parser -/
def PP (n k : Nat) (s : PS) : PH := pput h T s.2.1 (gP n s.1 k s.2.2) c
theorem q78 {n k m : Nat} {s : PS} (h6 : n ≤ 60) (o : psOk s) (hm : m < 10) : rcal 78 [.ref 167, .int (I m)] (PP h T c n k s, r) = some (.inl (some (.int (b2i (tkR T n m s).1))), (PP h T c n k (tkR T n m s).2, r)) := by
  have e := m78 h T s.2.1 (gP n s.1 k s.2.2) c r (n := n) (p := s.1) (a := s.2.2) (m := m) rfl rfl rfl h6 o.1 o.2 hm
  rw [gP_u2, gP_u6] at e
  unfold PP
  rw [e]
  unfold tkR
  cases tkN T n m s.1 s.2.2 <;> rfl
theorem q77 {n k : Nat} {s : PS} (h6 : n ≤ 60) (o : psOk s) (v : Int32) : rcal 77 [.ref 167, .int v] (PP h T c n k s, r) = some (.inl (some (.int (b2i (fsg T n v s).1))), (PP h T c n k (fsg T n v s).2, r)) := by
  have rv : recv (PP h T c n k s, r) 167 4 = true := rvP ..
  by_cases e35 : v = 35
  · have e := q78 h T c r (k := k) (m := 1) h6 o (by decide)
    have f : fsg T n v s = tkR T n 1 s := by unfold fsg; rw [if_pos e35]
    rw [show I 1 = 1 from rfl] at e
    simp only [c77, x77_0, x77_1, x77_3, x77_6, x77_7, x77_8, x77_11, x77_12, x77_13, x77_15, x77_18, x77_19, x77_20, x77_23, x77_24, x77_25, x77_26, x77_29, gk_some, pk_some, qk_some, bnd_v, bnd_n, kl_int, kl_ref, kl_null, kl_un, Nat.reduceAdd, if_true, if_false, e35, rv, e, fitb]
    rw [← e35, f]
  · by_cases e37 : v = 37
    · have e := q78 h T c r (k := k) (m := 2) h6 o (by decide)
      have f : fsg T n v s = tkR T n 2 s := by unfold fsg; rw [if_neg e35, if_pos e37]
      rw [show I 2 = 2 from rfl] at e
      have o1 : ¬ (37 : Int32) = 35 := by decide
      simp only [c77, x77_0, x77_1, x77_3, x77_6, x77_7, x77_8, x77_11, x77_12, x77_13, x77_15, x77_18, x77_19, x77_20, x77_23, x77_24, x77_25, x77_26, x77_29, gk_some, pk_some, qk_some, bnd_v, bnd_n, kl_int, kl_ref, kl_null, kl_un, Nat.reduceAdd, if_true, if_false, e37, o1, rv, e, fitb]
      rw [← e37, f]
    · have e := m80 h T s.2.1 (gP n s.1 k s.2.2) c r (n := n) (p := s.1) rfl rfl h6 o.1 v
      have f : fsg T n v s = (sgn T n v s.1, (if sgn T n v s.1 = true then s.1 + 1 else s.1), s.2) := by unfold fsg; rw [if_neg e35, if_neg e37]
      have e' : rcal 80 [.ref 167, .int v] (PP h T c n k s, r) = some (.inl (some (.int (b2i (fsg T n v s).1))), (PP h T c n k (fsg T n v s).2, r)) := by
        rw [f]
        unfold PP
        rw [e, gP_u2]
        cases sgn T n v s.1 <;> rfl
      simp only [c77, x77_0, x77_1, x77_3, x77_6, x77_7, x77_8, x77_11, x77_12, x77_13, x77_15, x77_18, x77_19, x77_20, x77_23, x77_24, x77_25, x77_26, x77_29, gk_some, pk_some, qk_some, bnd_v, bnd_n, kl_int, kl_ref, kl_null, kl_un, Nat.reduceAdd, if_true, if_false, e35, e37, rv, e', fitb]
end PARSE
