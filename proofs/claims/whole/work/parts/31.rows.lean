/-! reading and writing a line's heap, row by row -/
section PUT3
variable (h : PH) {p : Nat} (f tk rt ps : Nat → Int32) (S : List SL) (r : Nat × Nat × Nat)
theorem pfd_of {H H' : HS} {ci fk a : Nat} {v : Value} {fs : List Value} (e : H.1 a = some (ci, fs)) (h7 : ci < 7) (ha : 32 ≤ a) (hf : fitp ((fC ci).getD fk 9) v = true) (e2 : hsu H a (ci, fs.set fk v) = H') : pfd H true ci fk a v = some H' := by
  unfold pfd
  rw [e]
  simp only []
  rw [if_pos ⟨trivial, h7, ha, trivial, hf⟩, e2]
theorem pl0 (hp : 32 ≤ p) (v : Int32) : pfd (put h p f tk rt ps S, r) true 1 0 p (.int v) = some (put h p (up f 0 v) tk rt ps S, r) :=
  pfd_of (put_0 h p f tk rt ps S) (by decide) hp rfl (by simpa [hsu, lO, up] using pu_0 h f tk rt ps S (p := p) (up f 0 v))
theorem pl5 (hp : 32 ≤ p) (v : Int32) : pfd (put h p f tk rt ps S, r) true 1 5 p (.int v) = some (put h p (up f 5 v) tk rt ps S, r) :=
  pfd_of (put_0 h p f tk rt ps S) (by decide) hp rfl (by simpa [hsu, lO, up] using pu_0 h f tk rt ps S (p := p) (up f 5 v))
theorem pl6 (hp : 32 ≤ p) (v : Int32) : pfd (put h p f tk rt ps S, r) true 1 6 p (.int v) = some (put h p (up f 6 v) tk rt ps S, r) :=
  pfd_of (put_0 h p f tk rt ps S) (by decide) hp rfl (by simpa [hsu, lO, up] using pu_0 h f tk rt ps S (p := p) (up f 6 v))
theorem pl7 (hp : 32 ≤ p) (v : Int32) : pfd (put h p f tk rt ps S, r) true 1 7 p (.int v) = some (put h p (up f 7 v) tk rt ps S, r) :=
  pfd_of (put_0 h p f tk rt ps S) (by decide) hp rfl (by simpa [hsu, lO, up] using pu_0 h f tk rt ps S (p := p) (up f 7 v))
theorem pl8 (hp : 32 ≤ p) (v : Int32) : pfd (put h p f tk rt ps S, r) true 1 8 p (.int v) = some (put h p (up f 8 v) tk rt ps S, r) :=
  pfd_of (put_0 h p f tk rt ps S) (by decide) hp rfl (by simpa [hsu, lO, up] using pu_0 h f tk rt ps S (p := p) (up f 8 v))
theorem pl9 (hp : 32 ≤ p) (v : Int32) : pfd (put h p f tk rt ps S, r) true 1 9 p (.int v) = some (put h p (up f 9 v) tk rt ps S, r) :=
  pfd_of (put_0 h p f tk rt ps S) (by decide) hp rfl (by simpa [hsu, lO, up] using pu_0 h f tk rt ps S (p := p) (up f 9 v))
theorem pl11 (hp : 32 ≤ p) (v : Int32) : pfd (put h p f tk rt ps S, r) true 1 11 p (.int v) = some (put h p (up f 11 v) tk rt ps S, r) :=
  pfd_of (put_0 h p f tk rt ps S) (by decide) hp rfl (by simpa [hsu, lO, up] using pu_0 h f tk rt ps S (p := p) (up f 11 v))
theorem pl12 (hp : 32 ≤ p) (v : Int32) : pfd (put h p f tk rt ps S, r) true 1 12 p (.int v) = some (put h p (up f 12 v) tk rt ps S, r) :=
  pfd_of (put_0 h p f tk rt ps S) (by decide) hp rfl (by simpa [hsu, lO, up] using pu_0 h f tk rt ps S (p := p) (up f 12 v))
theorem pl10 (hp : 32 ≤ p) (v : Int32) : pfd (put h p f tk rt ps S, r) true 1 10 p (.long v.toInt64) = some (put h p (up f 10 v) tk rt ps S, r) :=
  pfd_of (put_0 h p f tk rt ps S) (by decide) hp rfl (by simpa [hsu, lO, up] using pu_0 h f tk rt ps S (p := p) (up f 10 v))
theorem pt0 (hp : 32 ≤ p) {j : Nat} (hj : has S j) (a : Nat) : pfd (put h p f tk rt ps S, r) true 2 0 (p + 5 + j) (.ref a) = some (put h p f tk rt ps (upS S j (a, (tr S j).2)), r) :=
  pfd_of (put_t h p f tk rt ps S hj) (by decide) (by omega) rfl (by simpa [hsu, tO, up] using pu_5 h f tk rt ps S (p := p) hj (a, (tr S j).2))
theorem pt1 (hp : 32 ≤ p) {j : Nat} (hj : has S j) (v : Int32) : pfd (put h p f tk rt ps S, r) true 2 1 (p + 5 + j) (.int v) = some (put h p f tk rt ps (upS S j ((tr S j).1, up (tr S j).2 1 v)), r) :=
  pfd_of (put_t h p f tk rt ps S hj) (by decide) (by omega) rfl (by simpa [hsu, tO, up] using pu_5 h f tk rt ps S (p := p) hj ((tr S j).1, up (tr S j).2 1 v))
theorem pt2 (hp : 32 ≤ p) {j : Nat} (hj : has S j) (v : Int32) : pfd (put h p f tk rt ps S, r) true 2 2 (p + 5 + j) (.int v) = some (put h p f tk rt ps (upS S j ((tr S j).1, up (tr S j).2 2 v)), r) :=
  pfd_of (put_t h p f tk rt ps S hj) (by decide) (by omega) rfl (by simpa [hsu, tO, up] using pu_5 h f tk rt ps S (p := p) hj ((tr S j).1, up (tr S j).2 2 v))
theorem pt3 (hp : 32 ≤ p) {j : Nat} (hj : has S j) (v : Int32) : pfd (put h p f tk rt ps S, r) true 2 3 (p + 5 + j) (.int v) = some (put h p f tk rt ps (upS S j ((tr S j).1, up (tr S j).2 3 v)), r) :=
  pfd_of (put_t h p f tk rt ps S hj) (by decide) (by omega) rfl (by simpa [hsu, tO, up] using pu_5 h f tk rt ps S (p := p) hj ((tr S j).1, up (tr S j).2 3 v))
theorem pt4 (hp : 32 ≤ p) {j : Nat} (hj : has S j) (v : Int32) : pfd (put h p f tk rt ps S, r) true 2 4 (p + 5 + j) (.int v) = some (put h p f tk rt ps (upS S j ((tr S j).1, up (tr S j).2 4 v)), r) :=
  pfd_of (put_t h p f tk rt ps S hj) (by decide) (by omega) rfl (by simpa [hsu, tO, up] using pu_5 h f tk rt ps S (p := p) hj ((tr S j).1, up (tr S j).2 4 v))
theorem pt5 (hp : 32 ≤ p) {j : Nat} (hj : has S j) (v : Int32) : pfd (put h p f tk rt ps S, r) true 2 5 (p + 5 + j) (.int v) = some (put h p f tk rt ps (upS S j ((tr S j).1, up (tr S j).2 5 v)), r) :=
  pfd_of (put_t h p f tk rt ps S hj) (by decide) (by omega) rfl (by simpa [hsu, tO, up] using pu_5 h f tk rt ps S (p := p) hj ((tr S j).1, up (tr S j).2 5 v))
theorem pt6 (hp : 32 ≤ p) {j : Nat} (hj : has S j) (v : Int32) : pfd (put h p f tk rt ps S, r) true 2 6 (p + 5 + j) (.int v) = some (put h p f tk rt ps (upS S j ((tr S j).1, up (tr S j).2 6 v)), r) :=
  pfd_of (put_t h p f tk rt ps S hj) (by decide) (by omega) rfl (by simpa [hsu, tO, up] using pu_5 h f tk rt ps S (p := p) hj ((tr S j).1, up (tr S j).2 6 v))
theorem pt7 (hp : 32 ≤ p) {j : Nat} (hj : has S j) (v : Int32) : pfd (put h p f tk rt ps S, r) true 2 7 (p + 5 + j) (.int v) = some (put h p f tk rt ps (upS S j ((tr S j).1, up (tr S j).2 7 v)), r) :=
  pfd_of (put_t h p f tk rt ps S hj) (by decide) (by omega) rfl (by simpa [hsu, tO, up] using pu_5 h f tk rt ps S (p := p) hj ((tr S j).1, up (tr S j).2 7 v))
theorem pt8 (hp : 32 ≤ p) {j : Nat} (hj : has S j) (v : Int32) : pfd (put h p f tk rt ps S, r) true 2 8 (p + 5 + j) (.int v) = some (put h p f tk rt ps (upS S j ((tr S j).1, up (tr S j).2 8 v)), r) :=
  pfd_of (put_t h p f tk rt ps S hj) (by decide) (by omega) rfl (by simpa [hsu, tO, up] using pu_5 h f tk rt ps S (p := p) hj ((tr S j).1, up (tr S j).2 8 v))
theorem pt9 (hp : 32 ≤ p) {j : Nat} (hj : has S j) (v : Int32) (hv : fitp 1 (.int v) = true) : pfd (put h p f tk rt ps S, r) true 2 9 (p + 5 + j) (.int v) = some (put h p f tk rt ps (upS S j ((tr S j).1, up (tr S j).2 9 v)), r) :=
  pfd_of (put_t h p f tk rt ps S hj) (by decide) (by omega) hv (by simpa [hsu, tO, up] using pu_5 h f tk rt ps S (p := p) hj ((tr S j).1, up (tr S j).2 9 v))
theorem pt10 (hp : 32 ≤ p) {j : Nat} (hj : has S j) (v : Int32) : pfd (put h p f tk rt ps S, r) true 2 10 (p + 5 + j) (.int v) = some (put h p f tk rt ps (upS S j ((tr S j).1, up (tr S j).2 10 v)), r) :=
  pfd_of (put_t h p f tk rt ps S hj) (by decide) (by omega) rfl (by simpa [hsu, tO, up] using pu_5 h f tk rt ps S (p := p) hj ((tr S j).1, up (tr S j).2 10 v))
theorem pt11 (hp : 32 ≤ p) {j : Nat} (hj : has S j) (v : Int32) : pfd (put h p f tk rt ps S, r) true 2 11 (p + 5 + j) (.int v) = some (put h p f tk rt ps (upS S j ((tr S j).1, up (tr S j).2 11 v)), r) :=
  pfd_of (put_t h p f tk rt ps S hj) (by decide) (by omega) rfl (by simpa [hsu, tO, up] using pu_5 h f tk rt ps S (p := p) hj ((tr S j).1, up (tr S j).2 11 v))
theorem ra1 {i : Int32} (h0 : ¬ i < 0) (h1 : i.toNatClampNeg < 7) : ald (put h p f tk rt ps S, r) 100 (p + 1) i = some (.int (tk i.toNatClampNeg)) := ald_i (put_1 h p f tk rt ps S) h0 h1 (by decide)
theorem wa1 (hp : 32 ≤ p) {i : Int32} (h0 : ¬ i < 0) (h1 : i.toNatClampNeg < 7) (v : Int32) : ast (put h p f tk rt ps S, r) 100 (p + 1) i (.int v) = some (put h p f (up tk i.toNatClampNeg v) rt ps S, r) := by
  rw [ast_i (put_1 h p f tk rt ps S) (by omega) h0 h1, hsu, pu_1]
theorem ln1 : alen (put h p f tk rt ps S, r) (p + 1) = some (.int 7) := by
  simp only [alen, put_1, iA, List.length_map, List.length_range]; rfl
theorem ra2 {i : Int32} (h0 : ¬ i < 0) (h1 : i.toNatClampNeg < 6) : ald (put h p f tk rt ps S, r) 100 (p + 2) i = some (.int (rt i.toNatClampNeg)) := ald_i (put_2 h p f tk rt ps S) h0 h1 (by decide)
theorem wa2 (hp : 32 ≤ p) {i : Int32} (h0 : ¬ i < 0) (h1 : i.toNatClampNeg < 6) (v : Int32) : ast (put h p f tk rt ps S, r) 100 (p + 2) i (.int v) = some (put h p f tk (up rt i.toNatClampNeg v) ps S, r) := by
  rw [ast_i (put_2 h p f tk rt ps S) (by omega) h0 h1, hsu, pu_2]
theorem ln2 : alen (put h p f tk rt ps S, r) (p + 2) = some (.int 6) := by
  simp only [alen, put_2, iA, List.length_map, List.length_range]; rfl
theorem ra3 {i : Int32} (h0 : ¬ i < 0) (h1 : i.toNatClampNeg < 7) : ald (put h p f tk rt ps S, r) 100 (p + 3) i = some (.int (ps i.toNatClampNeg)) := ald_i (put_3 h p f tk rt ps S) h0 h1 (by decide)
theorem wa3 (hp : 32 ≤ p) {i : Int32} (h0 : ¬ i < 0) (h1 : i.toNatClampNeg < 7) (v : Int32) : ast (put h p f tk rt ps S, r) 100 (p + 3) i (.int v) = some (put h p f tk rt (up ps i.toNatClampNeg v) S, r) := by
  rw [ast_i (put_3 h p f tk rt ps S) (by omega) h0 h1, hsu, pu_3]
theorem ln3 : alen (put h p f tk rt ps S, r) (p + 3) = some (.int 7) := by
  simp only [alen, put_3, iA, List.length_map, List.length_range]; rfl
theorem I_add (a b : Nat) : I a + I b = I (a + b) := (Int32.ofNat_add a b).symm
theorem I_1 (a : Nat) : I a + 1 = I (a + 1) := I_add a 1
theorem I_lt {a b : Nat} (ha : a < 2147483648) (hb : b < 2147483648) : I a < I b ↔ a < b := by
  rw [Int32.lt_iff_toInt_lt, Int32.toInt_ofNat_of_lt ha, Int32.toInt_ofNat_of_lt hb]; omega
theorem I_nat {a : Nat} (ha : a < 2147483648) : (I a).toNatClampNeg = a := Int32.toNatClampNeg_ofNat_of_lt ha
theorem I_nn {a : Nat} (ha : a < 2147483648) : ¬ I a < 0 := by
  rw [show (0 : Int32) = I 0 from rfl, I_lt ha (by decide)]; omega
theorem I_inj {a b : Nat} (ha : a < 2147483648) (hb : b < 2147483648) : I a = I b ↔ a = b := by
  constructor
  · intro e
    have := congrArg Int32.toNatClampNeg e
    rwa [I_nat ha, I_nat hb] at this
  · rintro rfl; rfl
theorem at_mid {D R : List SL} {s : SL} (hS : S = D ++ s :: R) (hl : S.length < 2147483648) : aald (put h p f tk rt ps S, r) (p + 4) (I D.length) = some (.ref (p + 5 + s.1)) := by
  have hD : D.length < S.length := by rw [hS]; simp
  unfold aald
  simp only [put_4]
  rw [if_pos ⟨rfl, fun q => q.elim (I_nn (by omega)) (fun q => by rw [List.length_map, I_nat (by omega)] at q; omega)⟩, I_nat (by omega), List.getElem?_map, hS]
  simp
theorem req_pl {H : HS} {a b : Nat} (ha : 1 ≤ a ∧ a ≤ 4) (hb : 1 ≤ b ∧ b ≤ 4) : req H (.ref a) (.ref b) = some (decide (a = b)) := by
  unfold req
  simp only []
  rw [if_pos ⟨Or.inl ha, Or.inl hb⟩]
theorem req_t (hp : 32 ≤ p) {i j : Nat} (hi : has S i) (hj : has S j) : req (put h p f tk rt ps S, r) (.ref (p + 5 + i)) (.ref (p + 5 + j)) = some (decide (i = j)) := by
  unfold req
  simp only []
  rw [if_pos ⟨Or.inr ⟨show 32 ≤ p + 5 + i by omega, by rw [put_t h p f tk rt ps S hi]; rfl⟩, Or.inr ⟨show 32 ≤ p + 5 + j by omega, by rw [put_t h p f tk rt ps S hj]; rfl⟩⟩]
  simp
end PUT3
/-- the trains' places are each of the line's own six, once -/
def NDH (S : List SL) : Prop := (S.map Prod.fst).Nodup
theorem lk_mid {D R : List SL} {s : SL} (nd : NDH (D ++ s :: R)) : lk (D ++ s :: R) s.1 = some s.2 := by
  induction D with
  | nil => simp [lk]
  | cons d D ih =>
    have nd2 : NDH (D ++ s :: R) := (List.nodup_cons.mp nd).2
    have hne : d.1 ≠ s.1 := fun e => (List.nodup_cons.mp nd).1 (by rw [e]; simp)
    simp only [List.cons_append, lk, if_neg hne, ih nd2]
theorem has_mid {S D R : List SL} {s : SL} (nd : NDH S) (hS : S = D ++ s :: R) : has S s.1 := by
  subst hS; unfold has; rw [lk_mid nd]; rfl
theorem tr_mid {S D R : List SL} {s : SL} (nd : NDH S) (hS : S = D ++ s :: R) : tr S s.1 = s.2 := by
  subst hS; unfold tr; rw [lk_mid nd]; rfl
/-- the places of trains are places -/
def PLS (S : List SL) : Prop := ∀ s, s ∈ S → 1 ≤ s.2.1 ∧ s.2.1 ≤ 4
theorem upS_upS (S : List SL) (j : Nat) (t u : TR) : upS (upS S j t) j u = upS S j u := by
  simp only [upS, List.map_map]
  refine List.map_congr_left fun s _ => ?_
  simp only [Function.comp]
  by_cases h : s.1 = j
  · rw [if_pos h, if_pos rfl, if_pos h]
  · rw [if_neg h, if_neg h]
