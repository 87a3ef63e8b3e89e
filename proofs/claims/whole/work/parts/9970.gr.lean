/-! BOTH SIDES: what holds between two calls of the law -/
/-- the class's cells: the script, the class's object and what it names, its output -/
def CPr (xs : List Int32) (h : PH) (r : Nat × Nat × Nat) (c s : Nat) (L Sv : LN) (Hs : Nat → LN) (nx ct : Nat) (sv er fa : Int32) (T : Nat → Int32) (n m : Nat) (f : Nat → Int32) : Prop :=
  h 0 = some (100, xs.map .int) ∧ (∃ Fc, AK h L Sv Fc Hs nx ct sv er fa) ∧ (∃ j k q, j < 7 ∧ psOk q ∧ PAt h T (5 + j) n k q) ∧ ∃ i B x, sput h i m B x = h ∧ i ≤ 3 ∧ m ≤ capN i ∧ r = rS c s i ∧ Eqv m B f
/-- the law's own rows -/
def OUTs (h : PH) : Prop := (∃ o, h 184 = some (103, [.long o])) ∧ ∃ d, h 185 = some (104, [.double d])
/-- the reference's numbers are the class's state -/
def GRm (L Sv : LN) (Hs : Nat → LN) (nx ct : Nat) (sv er fa : Int32) (n m : Nat) (g : Nat → Int32) (A : Nat → Nat → Int32) (X N : Int) : Prop :=
  MRL (A 1) L ∧ FL X N L ∧ (g 11 = I n ∧ n ≤ 60) ∧ (g 22 = I m ∧ m ≤ 120 ∧ ∀ k, k < m → chO (A 11 k) = true) ∧ (g 7 = er ∧ g 8 = fa) ∧ g 6 = I ct ∧ (g 4 = sv ∧ (sv = 0 ∨ sv = 1) ∧ (sv = 1 → MRL (A 4) Sv ∧ FL X N Sv)) ∧ ∀ q, q < ct → MRL (fun y => A 5 (76 * q + y)) (Hs ((nx + 9 - ct + q) % 9)) ∧ FL X N (Hs ((nx + 9 - ct + q) % 9))
/-- between two calls, t of them done -/
def GR (xs : List Int32) (t : Nat) (H : HS) : Prop := ∃ c s L Sv Hs nx ct sv er fa n m g A, CPr xs H.1 H.2 c s L Sv Hs nx ct sv er fa (A 6) n m (A 11) ∧ mput H.1 172 g A = H.1 ∧ OUTs H.1 ∧ GRm L Sv Hs nx ct sv er fa n m g A (60 * ((t : Int) - n)) ((t : Int) - n) ∧ n ≤ t ∧ c ≤ 1000 + t ∧ s ≤ 100000 + 6 * t
theorem SB_frame {h h1 : PH} {i m : Nat} {B : Nat → Int32} {x : Int32} (e : sput h i m B x = h) (k : ∀ b, b = 170 ∨ b = bAd i → h1 b = h b) : sput h1 i m B x = h1 := by
  funext b
  have z := congrFun e b
  by_cases e1 : b = 170
  · subst e1
    rw [k 170 (Or.inl rfl), ← z, sput_0, sput_0]
  · by_cases e2 : b = bAd i
    · subst e2
      rw [k _ (Or.inr rfl), ← z, sput_1, sput_1]
    · exact sput_o _ _ _ _ _ e1 e2
theorem bAd_in (i : Nat) : bAd i = 171 ∨ 186 ≤ bAd i := by unfold bAd; split <;> omega
theorem mput_o (h : PH) (p : Nat) (g : Nat → Int32) (A : Nat → Nat → Int32) {b : Nat} (o : b < p ∨ p + 12 ≤ b) : mput h p g A b = h b := by
  unfold mput
  rw [if_neg (by omega), if_neg (by omega), if_neg (by omega), if_neg (by omega), if_neg (by omega), if_neg (by omega), if_neg (by omega), if_neg (by omega), if_neg (by omega), if_neg (by omega), if_neg (by omega), if_neg (by omega)]
theorem mput_c (h h' : PH) (p : Nat) (g : Nat → Int32) (A : Nat → Nat → Int32) {b : Nat} (o : ¬ (b < p ∨ p + 12 ≤ b)) : mput h p g A b = mput h' p g A b := by
  unfold mput
  by_cases e0 : b = p
  · rw [if_pos e0, if_pos e0]
  · rw [if_neg e0, if_neg e0]
    by_cases e1 : b = p + 1
    · rw [if_pos e1, if_pos e1]
    · rw [if_neg e1, if_neg e1]
      by_cases e2 : b = p + 2
      · rw [if_pos e2, if_pos e2]
      · rw [if_neg e2, if_neg e2]
        by_cases e3 : b = p + 3
        · rw [if_pos e3, if_pos e3]
        · rw [if_neg e3, if_neg e3]
          by_cases e4 : b = p + 4
          · rw [if_pos e4, if_pos e4]
          · rw [if_neg e4, if_neg e4]
            by_cases e5 : b = p + 5
            · rw [if_pos e5, if_pos e5]
            · rw [if_neg e5, if_neg e5]
              by_cases e6 : b = p + 6
              · rw [if_pos e6, if_pos e6]
              · rw [if_neg e6, if_neg e6]
                by_cases e7 : b = p + 7
                · rw [if_pos e7, if_pos e7]
                · rw [if_neg e7, if_neg e7]
                  by_cases e8 : b = p + 8
                  · rw [if_pos e8, if_pos e8]
                  · rw [if_neg e8, if_neg e8]
                    by_cases e9 : b = p + 9
                    · rw [if_pos e9, if_pos e9]
                    · rw [if_neg e9, if_neg e9]
                      by_cases e10 : b = p + 10
                      · rw [if_pos e10, if_pos e10]
                      · rw [if_neg e10, if_neg e10, if_pos (by omega), if_pos (by omega)]
theorem MP_frame {h h' : PH} {g : Nat → Int32} {A : Nat → Nat → Int32} (e : mput h 172 g A = h) (k : ∀ b, 172 ≤ b → b < 184 → h' b = h b) : mput h' 172 g A = h' := by
  funext b
  by_cases o : b < 172 ∨ 172 + 12 ≤ b
  · exact mput_o _ _ _ _ o
  · rw [k b (by omega) (by omega), ← congrFun e b]
    exact mput_c _ _ _ _ _ o
theorem MP_self (h : PH) (g : Nat → Int32) (A : Nat → Nat → Int32) : mput (mput h 172 g A) 172 g A = mput h 172 g A := by
  funext b
  by_cases o : b < 172 ∨ 172 + 12 ≤ b
  · exact mput_o _ _ _ _ o
  · exact mput_c _ _ _ _ _ o
section CPR
variable {xs : List Int32} {h h' : PH} {r : Nat × Nat × Nat} {c s : Nat} {L Sv : LN} {Hs : Nat → LN} {nx ct : Nat} {sv er fa : Int32} {T : Nat → Int32} {n m : Nat} {f : Nat → Int32}
theorem CPr_frame (C : CPr xs h r c s L Sv Hs nx ct sv er fa T n m f) (k : ∀ b, b < 172 ∨ 186 ≤ b → h' b = h b) : CPr xs h' r c s L Sv Hs nx ct sv er fa T n m f := by
  obtain ⟨c0, ⟨Fc, a⟩, ⟨j, kk, q, j7, qo, pa⟩, i, B, x, sb, i3, mc, er', eq⟩ := C
  refine ⟨by rw [k 0 (by decide)]; exact c0, ⟨Fc, AK_frame a (fun b b1 b2 => k b (by omega))⟩, ⟨j, kk, q, j7, qo, PAt_frame pa (fun b b1 b2 => k b (by omega))⟩, i, B, x, SB_frame sb (fun b hb => k b ?_), i3, mc, er', eq⟩
  have := bAd_in i
  omega
theorem CPr_r (C : CPr xs h r c s L Sv Hs nx ct sv er fa T n m f) : CPr xs h (hsx (h, r)).2 (c + 1) (s + 6) L Sv Hs nx ct sv er fa T n m f := by
  obtain ⟨c0, a, pa, i, B, x, sb, i3, mc, er', eq⟩ := C
  refine ⟨c0, a, pa, i, B, x, sb, i3, mc, ?_, eq⟩
  subst er'
  unfold hsx rS
  simp only [Prod.mk.injEq, true_and]
  omega
/-- what the law reads of the script -/
theorem sc_rd (C : CPr xs h r c s L Sv Hs nx ct sv er fa T n m f) (hl : xs.length ≤ 2048) {j : Nat} {a : Int32} (e : xs[j]? = some a) (r' : Nat × Nat × Nat) : ald (h, r') 100 0 (I j) = some (.int a) := by
  have hj : j < xs.length := (List.getElem?_eq_some_iff.mp e).1
  unfold ald
  simp only [C.1, List.length_map]
  rw [if_pos ⟨trivial, fun q => q.elim (I_nn (by omega)) (fun q => by rw [I_nat (by omega)] at q; omega), by omega⟩, I_nat (by omega), List.getElem?_map, e]
  rfl
theorem sc_len (C : CPr xs h r c s L Sv Hs nx ct sv er fa T n m f) (r' : Nat × Nat × Nat) : alen (h, r') 0 = some (.int (I xs.length)) := by
  unfold alen
  simp only [C.1, List.length_map]
  rfl
theorem CPr_rv (C : CPr xs h r c s L Sv Hs nx ct sv er fa T n m f) (r' : Nat × Nat × Nat) : recv (h, r') 32 0 = true := by
  obtain ⟨c0, ⟨Fc, a⟩, -⟩ := C
  exact rv_of a.1 r'
end CPR
/-- between 172 and 186 nothing is new -/
def Kp (h h1 : PH) : Prop := ∀ b, 172 ≤ b → b < 186 → h1 b = h b
theorem Kp_rf (h : PH) : Kp h h := fun _ _ _ => rfl
theorem o_i : ¬ ((0 : Int32) < 0 ∨ 1 ≤ (0 : Int32).toNatClampNeg) := by decide
theorem o_l : 1 < 2147483648 := by decide
theorem oW {h : PH} {o : Int64} (ho : h 184 = some (103, [.long o])) (r : Nat × Nat × Nat) (x : Int64) : ast (h, r) 103 184 0 (.long x) = some (pu h 184 (103, [.long x]), r) := by
  unfold ast
  simp only [ho]
  rw [if_pos ⟨trivial, by decide, o_i⟩]
  rfl
theorem oWd {h : PH} {o : UInt64} (ho : h 185 = some (104, [.double o])) (r : Nat × Nat × Nat) (x : UInt64) : ast (h, r) 104 185 0 (.double x) = some (pu h 185 (104, [.double x]), r) := by
  unfold ast
  simp only [ho]
  rw [if_pos ⟨trivial, by decide, o_i⟩]
  rfl
theorem oR {h : PH} {o : Int64} (ho : h 184 = some (103, [.long o])) (r : Nat × Nat × Nat) : ald (h, r) 103 184 0 = some (.long o) := by
  unfold ald
  simp only [ho]
  rw [if_pos ⟨trivial, o_i, o_l⟩]
  rfl
theorem oRd {h : PH} {o : UInt64} (ho : h 185 = some (104, [.double o])) (r : Nat × Nat × Nat) : ald (h, r) 104 185 0 = some (.double o) := by
  unfold ald
  simp only [ho]
  rw [if_pos ⟨trivial, o_i, o_l⟩]
  rfl
section FIN
variable {xs : List Int32} {h h1 : PH} {r1 : Nat × Nat × Nat} {c s : Nat} {L Sv : LN} {Hs : Nat → LN} {nx ct : Nat} {sv er fa : Int32} {T : Nat → Int32} {n m : Nat} {f : Nat → Int32} {g : Nat → Int32} {A : Nat → Nat → Int32}
/-- the class has answered v; the reference's turn, and after it -/
theorem fin_v (C1 : CPr xs h1 r1 c s L Sv Hs nx ct sv er fa T n m f) (kp : Kp h h1) (M0 : mput h 172 g A = h) (O0 : OUTs h) (v : Int64) : CPr xs (pu h1 184 (103, [.long v])) r1 c s L Sv Hs nx ct sv er fa T n m f ∧ mput (pu h1 184 (103, [.long v])) 172 g A = pu h1 184 (103, [.long v]) ∧ (∃ o, h1 184 = some (103, [.long o])) ∧ ∀ g' A', CPr xs (mput (pu h1 184 (103, [.long v])) 172 g' A') r1 c s L Sv Hs nx ct sv er fa T n m f ∧ OUTs (mput (pu h1 184 (103, [.long v])) 172 g' A') ∧ ald (mput (pu h1 184 (103, [.long v])) 172 g' A', r1) 103 184 0 = some (.long v) := by
  obtain ⟨⟨o, o1⟩, d, d1⟩ := O0
  have p184 : pu h1 184 (103, [.long v]) 184 = some (103, [.long v]) := by simp [pu]
  have p185 : pu h1 184 (103, [.long v]) 185 = some (104, [.double d]) := by
    have : (185 : Nat) ≠ 184 := by decide
    simp only [pu, if_neg this]
    rw [kp 185 (by decide) (by decide)]; exact d1
  have m184 : ∀ g' A', mput (pu h1 184 (103, [.long v])) 172 g' A' 184 = some (103, [.long v]) := fun g' A' => by
    rw [mput_o _ _ _ _ (Or.inr (by decide))]; exact p184
  have C2 : CPr xs (pu h1 184 (103, [.long v])) r1 c s L Sv Hs nx ct sv er fa T n m f := CPr_frame C1 (fun b hb => by
    have : b ≠ 184 := by omega
    simp [pu, this])
  refine ⟨C2, MP_frame M0 (fun b b1 b2 => ?_), ⟨o, by rw [kp 184 (by decide) (by decide)]; exact o1⟩, fun g' A' => ⟨CPr_frame C2 (fun b hb => mput_o _ _ _ _ (by omega)), ⟨⟨v, m184 g' A'⟩, d, ?_⟩, oR (m184 g' A') r1⟩⟩
  · have : b ≠ 184 := by omega
    simp only [pu, if_neg this]
    exact kp b b1 (by omega)
  · rw [mput_o _ _ _ _ (Or.inr (by decide))]; exact p185
/-- the class has thrown, or its answer goes nowhere -/
theorem fin_e (C1 : CPr xs h1 r1 c s L Sv Hs nx ct sv er fa T n m f) (kp : Kp h h1) (M0 : mput h 172 g A = h) (O0 : OUTs h) : mput h1 172 g A = h1 ∧ OUTs h1 ∧ ∀ g' A', CPr xs (mput h1 172 g' A') r1 c s L Sv Hs nx ct sv er fa T n m f ∧ OUTs (mput h1 172 g' A') := by
  obtain ⟨⟨o, o1⟩, d, d1⟩ := O0
  have e184 : h1 184 = some (103, [.long o]) := by rw [kp 184 (by decide) (by decide)]; exact o1
  have e185 : h1 185 = some (104, [.double d]) := by rw [kp 185 (by decide) (by decide)]; exact d1
  refine ⟨MP_frame M0 (fun b b1 b2 => kp b b1 (by omega)), ⟨⟨o, e184⟩, d, e185⟩, fun g' A' => ⟨CPr_frame C1 (fun b hb => mput_o _ _ _ _ (by omega)), ⟨o, ?_⟩, d, ?_⟩⟩
  · rw [mput_o _ _ _ _ (Or.inr (by decide))]; exact e184
  · rw [mput_o _ _ _ _ (Or.inr (by decide))]; exact e185
end FIN
section GRQ
variable {L Sv : LN} {Hs : Nat → LN} {nx ct : Nat} {sv er fa : Int32} {n m : Nat} {g g' : Nat → Int32} {A A' : Nat → Nat → Int32} {X N X' N' : Int}
theorem GRm_up (G : GRm L Sv Hs nx ct sv er fa n m g A X N) (hX : X ≤ X') (h31 : X' ≤ 31100) (hN : N ≤ N') : GRm L Sv Hs nx ct sv er fa n m g A X' N' := by
  obtain ⟨a, b, d, e, k, l, ⟨q1, q2, q3⟩, w⟩ := G
  exact ⟨a, FL_mono b hX h31 hN, d, e, k, l, ⟨q1, q2, fun z => ⟨(q3 z).1, FL_mono (q3 z).2 hX h31 hN⟩⟩, fun q hq => ⟨(w q hq).1, FL_mono (w q hq).2 hX h31 hN⟩⟩
theorem GRm_q (G : GRm L Sv Hs nx ct sv er fa n m g A X N) (eg : ∀ k, k ≠ 9 → k ≠ 13 → g' k = g k) (e1 : ∀ x, x < 76 → A' 1 x = A 1 x) (eA : ∀ k, k ≠ 1 → k ≠ 3 → k ≠ 7 → A' k = A k) : GRm L Sv Hs nx ct sv er fa n m g' A' X N := by
  obtain ⟨a, b, d, e, k, l, ⟨q1, q2, q3⟩, w⟩ := G
  refine ⟨MRL_ext a e1, b, ⟨by rw [eg 11 (by decide) (by decide)]; exact d.1, d.2⟩, ⟨by rw [eg 22 (by decide) (by decide)]; exact e.1, e.2.1, fun k hk => by rw [eA 11 (by decide) (by decide) (by decide)]; exact e.2.2 k hk⟩, ⟨by rw [eg 7 (by decide) (by decide)]; exact k.1, by rw [eg 8 (by decide) (by decide)]; exact k.2⟩, by rw [eg 6 (by decide) (by decide)]; exact l, ⟨by rw [eg 4 (by decide) (by decide)]; exact q1, q2, fun z => by rw [eA 4 (by decide) (by decide) (by decide)]; exact q3 z⟩, fun q hq => by rw [eA 5 (by decide) (by decide) (by decide)]; exact w q hq⟩
theorem GRm_9 (G : GRm L Sv Hs nx ct sv er fa n m g A X N) (v : Int32) : GRm L Sv Hs nx ct sv er fa n m (up g 9 v) A X N := GRm_q G (fun k k9 _ => up_ne _ _ k9) (fun _ _ => rfl) (fun _ _ _ _ => rfl)
end GRQ
