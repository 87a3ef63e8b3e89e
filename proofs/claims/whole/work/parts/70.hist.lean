/-! the class's face: its objects, its history -/
def LAt (h : PH) (p : Nat) (L : LN) : Prop := putL h p L = h
theorem LAt_frame {h h' : PH} {p : Nat} {L : LN} (hL : LAt h p L) (w : WS L.2.2.2.2) (e : ∀ b, p ≤ b → b < p + 11 → h' b = h b) : LAt h' p L := by
  unfold LAt putL at *
  funext b
  by_cases c : p ≤ b ∧ b < p + 11
  · have hb := e b c.1 c.2
    have h1 := congrFun hL b
    rw [hb, ← h1]
    unfold put
    by_cases c1 : b = p
    · rw [if_pos c1, if_pos c1]
    · rw [if_neg c1, if_neg c1]
      by_cases c2 : b = p + 1
      · rw [if_pos c2, if_pos c2]
      · rw [if_neg c2, if_neg c2]
        by_cases c3 : b = p + 2
        · rw [if_pos c3, if_pos c3]
        · rw [if_neg c3, if_neg c3]
          by_cases c4 : b = p + 3
          · rw [if_pos c4, if_pos c4]
          · rw [if_neg c4, if_neg c4]
            by_cases c5 : b = p + 4
            · rw [if_pos c5, if_pos c5]
            · rw [if_neg c5, if_neg c5]
              by_cases c6 : p + 5 ≤ b
              · rw [if_pos c6, if_pos c6]
                cases lk L.2.2.2.2 (b - (p + 5)) with
                | some t => rfl
                | none => exact hb
              · omega
  · rw [put_out h' _ _ _ _ w (show out_ p b by unfold out_; omega)]
theorem LAt_put (h : PH) {p : Nat} {L : LN} (w : WS L.2.2.2.2) : LAt (putL h p L) p L := by
  unfold LAt putL
  funext b
  by_cases c : p + 5 ≤ b
  · unfold put
    by_cases c1 : b = p
    · omega
    by_cases c2 : b = p + 1
    · omega
    by_cases c3 : b = p + 2
    · omega
    by_cases c4 : b = p + 3
    · omega
    by_cases c5 : b = p + 4
    · omega
    rw [if_neg c1, if_neg c2, if_neg c3, if_neg c4, if_neg c5, if_pos c]
    simp only [if_neg c1, if_neg c2, if_neg c3, if_neg c4, if_neg c5, if_pos c]
    cases lk L.2.2.2.2 (b - (p + 5)) <;> rfl
  · unfold put
    by_cases c1 : b = p
    · rw [if_pos c1, if_pos c1]
    · rw [if_neg c1]
      by_cases c2 : b = p + 1
      · rw [if_pos c2, if_neg c1, if_pos c2]
      · rw [if_neg c2]
        by_cases c3 : b = p + 2
        · rw [if_pos c3, if_neg c1, if_neg c2, if_pos c3]
        · rw [if_neg c3]
          by_cases c4 : b = p + 3
          · rw [if_pos c4, if_neg c1, if_neg c2, if_neg c3, if_pos c4]
          · rw [if_neg c4]
            by_cases c5 : b = p + 4
            · rw [if_pos c5, if_neg c1, if_neg c2, if_neg c3, if_neg c4, if_pos c5]
            · rw [if_neg c5, if_neg c]
theorem putL_out (h : PH) {p : Nat} {L : LN} (w : WS L.2.2.2.2) {b : Nat} (o : b < p ∨ p + 11 ≤ b) : putL h p L b = h b := put_out h _ _ _ _ w o
theorem gf_of {h : PH} {a ci : Nat} {fs : List Value} (e : h a = some (ci, fs)) (r : Nat × Nat × Nat) (k : Nat) : gfd (h, r) ci k a = fs[k]? := by
  unfold gfd; simp only [e]; rfl
theorem rv_of {h : PH} {a ci : Nat} {fs : List Value} (e : h a = some (ci, fs)) (r : Nat × Nat × Nat) : recv (h, r) a ci = true := by
  unfold recv; simp only [e]; exact Nat.beq_refl ci
theorem pf_of {h : PH} {a ci k : Nat} {fs : List Value} {v : Value} (e : h a = some (ci, fs)) (r : Nat × Nat × Nat) (h7 : ci < 7) (ha : 32 ≤ a) (hf : fitp ((fC ci).getD k 9) v = true) : pfd (h, r) true ci k a v = some (pu h a (ci, fs.set k v), r) := pfd_of (H := (h, r)) e h7 ha hf rfl
/-- History's object -/
def hO (nx ct : Nat) : PO := (3, [.ref 67, .int (I nx), .int (I ct)])
def hQ (i : Nat) : Nat := 68 + 11 * i
def hR : PO := (106, (List.range 9).map fun i => .ref (hQ i))
/-- the class's cells but for the program and the output -/
def AK (h : PH) (L Sv Fc : LN) (Hs : Nat → LN) (nx ct : Nat) (sv er fa : Int32) : Prop :=
  h 32 = some (0, [.ref 33, .ref 44, .ref 55, .ref 66, .ref 167, .ref 170, .int sv, .int er, .int fa]) ∧
  (LAt h 33 L ∧ WS L.2.2.2.2) ∧ (LAt h 44 Sv ∧ WS Sv.2.2.2.2) ∧ (LAt h 55 Fc ∧ WS Fc.2.2.2.2) ∧ h 66 = some (hO nx ct) ∧ h 67 = some hR ∧ (∀ i, i < 9 → LAt h (hQ i) (Hs i) ∧ WS (Hs i).2.2.2.2) ∧ CK h ∧ nx < 9 ∧ ct ≤ 8
theorem fm_all : ∀ nx : Nat, nx < 9 → ∀ H : HS, rcal 12 [.int (I nx + 1), .int 9] H = some (.inl (some (.int (I ((nx + 1) % 9)))), H) ∧ rcal 12 [.int (I nx - 1), .int 9] H = some (.inl (some (.int (I ((nx + 8) % 9)))), H) := by
  intro nx hn H
  rcases (by omega : nx = 0 ∨ nx = 1 ∨ nx = 2 ∨ nx = 3 ∨ nx = 4 ∨ nx = 5 ∨ nx = 6 ∨ nx = 7 ∨ nx = 8) with rfl | rfl | rfl | rfl | rfl | rfl | rfl | rfl | rfl
  · exact ⟨by simp only [c12, x12_0, x12_1, x12_2, x12_3, x12_4, x12_5, x12_6, x12_7, x12_10, x12_11, x12_14, x12_15, x12_16, x12_17, x12_18, x12_19, gk_some, pk_some, qk_some, bnd_v, bnd_n, kl_int, kl_ref, kl_null, kl_un, Nat.reduceAdd, if_true, if_false]; rfl, by simp only [c12, x12_0, x12_1, x12_2, x12_3, x12_4, x12_5, x12_6, x12_7, x12_10, x12_11, x12_14, x12_15, x12_16, x12_17, x12_18, x12_19, gk_some, pk_some, qk_some, bnd_v, bnd_n, kl_int, kl_ref, kl_null, kl_un, Nat.reduceAdd, if_true, if_false]; rfl⟩
  · exact ⟨by simp only [c12, x12_0, x12_1, x12_2, x12_3, x12_4, x12_5, x12_6, x12_7, x12_10, x12_11, x12_14, x12_15, x12_16, x12_17, x12_18, x12_19, gk_some, pk_some, qk_some, bnd_v, bnd_n, kl_int, kl_ref, kl_null, kl_un, Nat.reduceAdd, if_true, if_false]; rfl, by simp only [c12, x12_0, x12_1, x12_2, x12_3, x12_4, x12_5, x12_6, x12_7, x12_10, x12_11, x12_14, x12_15, x12_16, x12_17, x12_18, x12_19, gk_some, pk_some, qk_some, bnd_v, bnd_n, kl_int, kl_ref, kl_null, kl_un, Nat.reduceAdd, if_true, if_false]; rfl⟩
  · exact ⟨by simp only [c12, x12_0, x12_1, x12_2, x12_3, x12_4, x12_5, x12_6, x12_7, x12_10, x12_11, x12_14, x12_15, x12_16, x12_17, x12_18, x12_19, gk_some, pk_some, qk_some, bnd_v, bnd_n, kl_int, kl_ref, kl_null, kl_un, Nat.reduceAdd, if_true, if_false]; rfl, by simp only [c12, x12_0, x12_1, x12_2, x12_3, x12_4, x12_5, x12_6, x12_7, x12_10, x12_11, x12_14, x12_15, x12_16, x12_17, x12_18, x12_19, gk_some, pk_some, qk_some, bnd_v, bnd_n, kl_int, kl_ref, kl_null, kl_un, Nat.reduceAdd, if_true, if_false]; rfl⟩
  · exact ⟨by simp only [c12, x12_0, x12_1, x12_2, x12_3, x12_4, x12_5, x12_6, x12_7, x12_10, x12_11, x12_14, x12_15, x12_16, x12_17, x12_18, x12_19, gk_some, pk_some, qk_some, bnd_v, bnd_n, kl_int, kl_ref, kl_null, kl_un, Nat.reduceAdd, if_true, if_false]; rfl, by simp only [c12, x12_0, x12_1, x12_2, x12_3, x12_4, x12_5, x12_6, x12_7, x12_10, x12_11, x12_14, x12_15, x12_16, x12_17, x12_18, x12_19, gk_some, pk_some, qk_some, bnd_v, bnd_n, kl_int, kl_ref, kl_null, kl_un, Nat.reduceAdd, if_true, if_false]; rfl⟩
  · exact ⟨by simp only [c12, x12_0, x12_1, x12_2, x12_3, x12_4, x12_5, x12_6, x12_7, x12_10, x12_11, x12_14, x12_15, x12_16, x12_17, x12_18, x12_19, gk_some, pk_some, qk_some, bnd_v, bnd_n, kl_int, kl_ref, kl_null, kl_un, Nat.reduceAdd, if_true, if_false]; rfl, by simp only [c12, x12_0, x12_1, x12_2, x12_3, x12_4, x12_5, x12_6, x12_7, x12_10, x12_11, x12_14, x12_15, x12_16, x12_17, x12_18, x12_19, gk_some, pk_some, qk_some, bnd_v, bnd_n, kl_int, kl_ref, kl_null, kl_un, Nat.reduceAdd, if_true, if_false]; rfl⟩
  · exact ⟨by simp only [c12, x12_0, x12_1, x12_2, x12_3, x12_4, x12_5, x12_6, x12_7, x12_10, x12_11, x12_14, x12_15, x12_16, x12_17, x12_18, x12_19, gk_some, pk_some, qk_some, bnd_v, bnd_n, kl_int, kl_ref, kl_null, kl_un, Nat.reduceAdd, if_true, if_false]; rfl, by simp only [c12, x12_0, x12_1, x12_2, x12_3, x12_4, x12_5, x12_6, x12_7, x12_10, x12_11, x12_14, x12_15, x12_16, x12_17, x12_18, x12_19, gk_some, pk_some, qk_some, bnd_v, bnd_n, kl_int, kl_ref, kl_null, kl_un, Nat.reduceAdd, if_true, if_false]; rfl⟩
  · exact ⟨by simp only [c12, x12_0, x12_1, x12_2, x12_3, x12_4, x12_5, x12_6, x12_7, x12_10, x12_11, x12_14, x12_15, x12_16, x12_17, x12_18, x12_19, gk_some, pk_some, qk_some, bnd_v, bnd_n, kl_int, kl_ref, kl_null, kl_un, Nat.reduceAdd, if_true, if_false]; rfl, by simp only [c12, x12_0, x12_1, x12_2, x12_3, x12_4, x12_5, x12_6, x12_7, x12_10, x12_11, x12_14, x12_15, x12_16, x12_17, x12_18, x12_19, gk_some, pk_some, qk_some, bnd_v, bnd_n, kl_int, kl_ref, kl_null, kl_un, Nat.reduceAdd, if_true, if_false]; rfl⟩
  · exact ⟨by simp only [c12, x12_0, x12_1, x12_2, x12_3, x12_4, x12_5, x12_6, x12_7, x12_10, x12_11, x12_14, x12_15, x12_16, x12_17, x12_18, x12_19, gk_some, pk_some, qk_some, bnd_v, bnd_n, kl_int, kl_ref, kl_null, kl_un, Nat.reduceAdd, if_true, if_false]; rfl, by simp only [c12, x12_0, x12_1, x12_2, x12_3, x12_4, x12_5, x12_6, x12_7, x12_10, x12_11, x12_14, x12_15, x12_16, x12_17, x12_18, x12_19, gk_some, pk_some, qk_some, bnd_v, bnd_n, kl_int, kl_ref, kl_null, kl_un, Nat.reduceAdd, if_true, if_false]; rfl⟩
  · exact ⟨by simp only [c12, x12_0, x12_1, x12_2, x12_3, x12_4, x12_5, x12_6, x12_7, x12_10, x12_11, x12_14, x12_15, x12_16, x12_17, x12_18, x12_19, gk_some, pk_some, qk_some, bnd_v, bnd_n, kl_int, kl_ref, kl_null, kl_un, Nat.reduceAdd, if_true, if_false]; rfl, by simp only [c12, x12_0, x12_1, x12_2, x12_3, x12_4, x12_5, x12_6, x12_7, x12_10, x12_11, x12_14, x12_15, x12_16, x12_17, x12_18, x12_19, gk_some, pk_some, qk_some, bnd_v, bnd_n, kl_int, kl_ref, kl_null, kl_un, Nat.reduceAdd, if_true, if_false]; rfl⟩
section HIST
variable {h : PH} {L Sv Fc : LN} {Hs : Nat → LN} {nx ct : Nat} {sv er fa : Int32} (r : Nat × Nat × Nat)
theorem hr_at {i : Nat} (hi : i < 9) (e : h 67 = some hR) : aald (h, r) 67 (I i) = some (.ref (hQ i)) := by
  unfold aald
  simp only [e]
  unfold hR
  rw [if_pos ⟨rfl, fun q => q.elim (I_nn (by omega)) (fun q => by rw [List.length_map, List.length_range, I_nat (by omega)] at q; omega)⟩, I_nat (by omega)]
  simp [hi]
/-- a copied line -/
def cpL (D L : LN) : LN := (L.1, L.2.1, L.2.2.1, L.2.2.2.1, zipT D.2.2.2.2 L.2.2.2.2)
theorem cp_line {p q : Nat} {D L : LN} (hp : 32 ≤ p) (hq : 32 ≤ q) (hD : LAt h p D) (wD : WS D.2.2.2.2) (hL : LAt h q L) (wL : WS L.2.2.2.2) (hd : q + 11 ≤ p ∨ p + 11 ≤ q) : rcal 35 [.ref p, .ref q] (h, r) = some (.inl none, (putL h p (cpL D L), r)) := by
  have e := m35 h D.1 D.2.1 D.2.2.1 D.2.2.2.1 D.2.2.2.2 r hp (q := q) (fq := L.1) (tq := L.2.1) (rq := L.2.2.1) (pq := L.2.2.2.1) (Sq := L.2.2.2.2) hL hq wD wL hd
  rw [show put h p D.1 D.2.1 D.2.2.1 D.2.2.2.1 D.2.2.2.2 = h from hD] at e
  exact e
theorem WS_cp {D L : LN} (wD : WS D.2.2.2.2) (wL : WS L.2.2.2.2) : WS (cpL D L).2.2.2.2 := WS_zip wD wL
theorem rvL_of {p : Nat} {L : LN} (hL : LAt h p L) : recv (h, r) p 1 = true := by
  have e := rvL h p L.1 L.2.1 L.2.2.1 L.2.2.2.1 L.2.2.2.2 r
  rwa [show put h p L.1 L.2.1 L.2.2.1 L.2.2.2.1 L.2.2.2.2 = h from hL] at e
theorem m30 (k : AK h L Sv Fc Hs nx ct sv er fa) : rcal 30 [.ref 66, .ref 33] (h, r) = some (.inl none, (putL h (hQ nx) (cpL (Hs nx) L), r)) := by
  obtain ⟨z0, ⟨l33, w33⟩, l44, l55, z66, z67, lh, ck, n9, c8⟩ := k
  have hq := lh nx n9
  have e := cp_line (h := h) r (p := hQ nx) (q := 33) (D := Hs nx) (L := L) (by unfold hQ; omega) (by decide) hq.1 hq.2 l33 w33 (by unfold hQ; omega)
  have a := hr_at r n9 z67
  have g0 := gf_of z66 r 0
  have g1 := gf_of z66 r 1
  simp only [c30, x30_0, x30_1, x30_4, x30_5, x30_8, x30_9, x30_10, x30_13, gk_some, pk_some, qk_some, bnd_v, bnd_n, kl_int, kl_ref, kl_null, kl_un, Nat.reduceAdd, if_true, if_false, g0, g1, List.getElem?_cons_zero, List.getElem?_cons_succ, a, rvL_of r hq.1, e]
theorem m31 (k : AK h L Sv Fc Hs nx ct sv er fa) : rcal 31 [.ref 66] (h, r) = some (.inl (some (.ref (hQ nx))), (h, r)) := by
  obtain ⟨z0, l33, l44, l55, z66, z67, lh, ck, n9, c8⟩ := k
  have a := hr_at r n9 z67
  have g0 := gf_of z66 r 0
  have g1 := gf_of z66 r 1
  simp only [c31, x31_0, x31_1, x31_4, x31_5, x31_8, x31_9, gk_some, pk_some, qk_some, bnd_v, bnd_n, kl_int, kl_ref, kl_null, kl_un, Nat.reduceAdd, if_true, if_false, g0, g1, List.getElem?_cons_zero, List.getElem?_cons_succ, a]
theorem min8 {ct : Nat} (h : ct ≤ 8) : (if 8 < I ct + 1 then (8 : Int32) else I ct + 1) = I (min (ct + 1) 8) := by
  rcases (by omega : ct = 0 ∨ ct = 1 ∨ ct = 2 ∨ ct = 3 ∨ ct = 4 ∨ ct = 5 ∨ ct = 6 ∨ ct = 7 ∨ ct = 8) with rfl | rfl | rfl | rfl | rfl | rfl | rfl | rfl | rfl <;> decide
theorem m32 (z66 : h 66 = some (hO nx ct)) (n9 : nx < 9) (c8 : ct ≤ 8) : rcal 32 [.ref 66] (h, r) = some (.inl none, (pu h 66 (hO ((nx + 1) % 9) (min (ct + 1) 8)), r)) := by
  have g1 := gf_of z66 r 1
  have fm := fun H => (fm_all nx n9 H).1
  have p1 := pf_of (k := 1) (v := .int (I ((nx + 1) % 9))) z66 r (by decide) (by decide) rfl
  have z2 : pu h 66 (3, [.ref 67, .int (I ((nx + 1) % 9)), .int (I ct)]) 66 = some (3, [.ref 67, .int (I ((nx + 1) % 9)), .int (I ct)]) := by simp [pu]
  have g2 := gf_of z2 r 2
  have p2 := pf_of (k := 2) (v := .int (I (min (ct + 1) 8))) z2 r (by decide) (by decide) rfl
  have pp : pu (pu h 66 (3, [.ref 67, .int (I ((nx + 1) % 9)), .int (I ct)])) 66 (3, [.ref 67, .int (I ((nx + 1) % 9)), .int (I (min (ct + 1) 8))]) = pu h 66 (hO ((nx + 1) % 9) (min (ct + 1) 8)) := by
    funext b; simp only [pu]; split <;> rfl
  simp only [List.set_cons_succ, List.set_cons_zero] at p1 p2
  rw [pp] at p2
  simp only [c32, x32_0, x32_1, x32_2, x32_5, x32_6, x32_7, x32_9, x32_12, x32_15, x32_16, x32_17, x32_20, x32_21, x32_22, x32_24, x32_27, x32_30, gk_some, pk_some, qk_some, bnd_v, bnd_n, kl_int, kl_ref, kl_null, kl_un, Nat.reduceAdd, if_true, if_false, g1, List.getElem?_cons_zero, List.getElem?_cons_succ, fm, p1, g2, min8 c8, p2]
theorem m33 (z66 : h 66 = some (hO nx ct)) (z67 : h 67 = some hR) (n9 : nx < 9) (c8 : ct ≤ 8) (c1 : 1 ≤ ct) : rcal 33 [.ref 66] (h, r) = some (.inl (some (.ref (hQ ((nx + 8) % 9)))), (pu h 66 (hO ((nx + 8) % 9) (ct - 1)), r)) := by
  have g1 := gf_of z66 r 1
  have fm := fun H => (fm_all nx n9 H).2
  have p1 := pf_of (k := 1) (v := .int (I ((nx + 8) % 9))) z66 r (by decide) (by decide) rfl
  have z2 : pu h 66 (3, [.ref 67, .int (I ((nx + 8) % 9)), .int (I ct)]) 66 = some (3, [.ref 67, .int (I ((nx + 8) % 9)), .int (I ct)]) := by simp [pu]
  have g2 := gf_of z2 r 2
  have p2 := pf_of (k := 2) (v := .int (I (ct - 1))) z2 r (by decide) (by decide) rfl
  have pp : pu (pu h 66 (3, [.ref 67, .int (I ((nx + 8) % 9)), .int (I ct)])) 66 (3, [.ref 67, .int (I ((nx + 8) % 9)), .int (I (ct - 1))]) = pu h 66 (hO ((nx + 8) % 9) (ct - 1)) := by
    funext b; simp only [pu]; split <;> rfl
  simp only [List.set_cons_succ, List.set_cons_zero] at p1 p2
  rw [pp] at p2
  have z3 : pu h 66 (hO ((nx + 8) % 9) (ct - 1)) 66 = some (hO ((nx + 8) % 9) (ct - 1)) := by simp [pu]
  have z4 : pu h 66 (hO ((nx + 8) % 9) (ct - 1)) 67 = some hR := by simp [pu, z67]
  have g3 := gf_of z3 r 0
  have g4 := gf_of z3 r 1
  have a := hr_at r (i := (nx + 8) % 9) (by omega) z4
  simp only [c33, x33_0, x33_1, x33_2, x33_5, x33_6, x33_7, x33_9, x33_12, x33_15, x33_16, x33_17, x33_20, x33_21, x33_22, x33_25, x33_26, x33_29, x33_30, x33_33, x33_34, gk_some, pk_some, qk_some, bnd_v, bnd_n, kl_int, kl_ref, kl_null, kl_un, Nat.reduceAdd, if_true, if_false, g1, List.getElem?_cons_zero, List.getElem?_cons_succ, fm, p1, g2, I_sub1 c1, p2, g3, g4, a]
/-- nothing but the cells in [lo, hi) is new -/
def Bt (h h' : PH) (lo hi : Nat) : Prop := ∀ b, (b < lo ∨ hi ≤ b) → h' b = h b
theorem AK_line {k : AK h L Sv Fc Hs nx ct sv er fa} {L' : LN} (w' : WS L'.2.2.2.2) : AK (putL h 33 L') L' Sv Fc Hs nx ct sv er fa := by
  obtain ⟨z0, ⟨l33, w33⟩, ⟨l44, w44⟩, ⟨l55, w55⟩, z66, z67, lh, ck, n9, c8⟩ := k
  have o : ∀ b, (b < 33 ∨ 44 ≤ b) → putL h 33 L' b = h b := fun b hb => putL_out h w' hb
  refine ⟨by rw [o 32 (by decide)]; exact z0, ⟨LAt_put h w', w'⟩, ⟨LAt_frame l44 w44 (fun b b1 b2 => o b (by omega)), w44⟩, ⟨LAt_frame l55 w55 (fun b b1 b2 => o b (by omega)), w55⟩, by rw [o 66 (by decide)]; exact z66, by rw [o 67 (by decide)]; exact z67, fun i hi => ?_, fun b b1 b2 => by rw [o b (by omega)]; exact ck b b1 b2, n9, c8⟩
  obtain ⟨a, b⟩ := lh i hi
  exact ⟨LAt_frame a b (fun x x1 x2 => o x (by unfold hQ at x1; omega)), b⟩
theorem AK_saved {k : AK h L Sv Fc Hs nx ct sv er fa} {L' : LN} (w' : WS L'.2.2.2.2) : AK (putL h 44 L') L L' Fc Hs nx ct sv er fa := by
  obtain ⟨z0, ⟨l33, w33⟩, ⟨l44, w44⟩, ⟨l55, w55⟩, z66, z67, lh, ck, n9, c8⟩ := k
  have o : ∀ b, (b < 44 ∨ 55 ≤ b) → putL h 44 L' b = h b := fun b hb => putL_out h w' hb
  refine ⟨by rw [o 32 (by decide)]; exact z0, ⟨LAt_frame l33 w33 (fun b b1 b2 => o b (by omega)), w33⟩, ⟨LAt_put h w', w'⟩, ⟨LAt_frame l55 w55 (fun b b1 b2 => o b (by omega)), w55⟩, by rw [o 66 (by decide)]; exact z66, by rw [o 67 (by decide)]; exact z67, fun i hi => ?_, fun b b1 b2 => by rw [o b (by omega)]; exact ck b b1 b2, n9, c8⟩
  obtain ⟨a, b⟩ := lh i hi
  exact ⟨LAt_frame a b (fun x x1 x2 => o x (by unfold hQ at x1; omega)), b⟩
theorem AK_fore {k : AK h L Sv Fc Hs nx ct sv er fa} {L' : LN} (w' : WS L'.2.2.2.2) : AK (putL h 55 L') L Sv L' Hs nx ct sv er fa := by
  obtain ⟨z0, ⟨l33, w33⟩, ⟨l44, w44⟩, ⟨l55, w55⟩, z66, z67, lh, ck, n9, c8⟩ := k
  have o : ∀ b, (b < 55 ∨ 66 ≤ b) → putL h 55 L' b = h b := fun b hb => putL_out h w' hb
  refine ⟨by rw [o 32 (by decide)]; exact z0, ⟨LAt_frame l33 w33 (fun b b1 b2 => o b (by omega)), w33⟩, ⟨LAt_frame l44 w44 (fun b b1 b2 => o b (by omega)), w44⟩, ⟨LAt_put h w', w'⟩, by rw [o 66 (by decide)]; exact z66, by rw [o 67 (by decide)]; exact z67, fun i hi => ?_, fun b b1 b2 => by rw [o b (by omega)]; exact ck b b1 b2, n9, c8⟩
  obtain ⟨a, b⟩ := lh i hi
  exact ⟨LAt_frame a b (fun x x1 x2 => o x (by unfold hQ at x1; omega)), b⟩
theorem AK_hist {k : AK h L Sv Fc Hs nx ct sv er fa} {j : Nat} (hj : j < 9) {L' : LN} (w' : WS L'.2.2.2.2) : AK (putL h (hQ j) L') L Sv Fc (fun i => if i = j then L' else Hs i) nx ct sv er fa := by
  obtain ⟨z0, ⟨l33, w33⟩, ⟨l44, w44⟩, ⟨l55, w55⟩, z66, z67, lh, ck, n9, c8⟩ := k
  have o : ∀ b, (b < hQ j ∨ hQ j + 11 ≤ b) → putL h (hQ j) L' b = h b := fun b hb => putL_out h w' hb
  have hq : 68 ≤ hQ j := by unfold hQ; omega
  refine ⟨by rw [o 32 (by omega)]; exact z0, ⟨LAt_frame l33 w33 (fun b b1 b2 => o b (by omega)), w33⟩, ⟨LAt_frame l44 w44 (fun b b1 b2 => o b (by omega)), w44⟩, ⟨LAt_frame l55 w55 (fun b b1 b2 => o b (by omega)), w55⟩, by rw [o 66 (by omega)]; exact z66, by rw [o 67 (by omega)]; exact z67, fun i hi => ?_, fun b b1 b2 => by rw [o b (by omega)]; exact ck b b1 b2, n9, c8⟩
  by_cases e : i = j
  · subst e
    simp only [if_true]
    exact ⟨LAt_put h w', w'⟩
  · obtain ⟨a, b⟩ := lh i hi
    simp only [if_neg e]
    exact ⟨LAt_frame a b (fun x x1 x2 => o x (by unfold hQ at *; omega)), b⟩
theorem AK_66 {k : AK h L Sv Fc Hs nx ct sv er fa} {nx' ct' : Nat} (n9' : nx' < 9) (c8' : ct' ≤ 8) : AK (pu h 66 (hO nx' ct')) L Sv Fc Hs nx' ct' sv er fa := by
  obtain ⟨z0, ⟨l33, w33⟩, ⟨l44, w44⟩, ⟨l55, w55⟩, z66, z67, lh, ck, n9, c8⟩ := k
  have o : ∀ b, b ≠ 66 → pu h 66 (hO nx' ct') b = h b := fun b hb => by simp [pu, hb]
  refine ⟨by rw [o 32 (by decide)]; exact z0, ⟨LAt_frame l33 w33 (fun b b1 b2 => o b (by omega)), w33⟩, ⟨LAt_frame l44 w44 (fun b b1 b2 => o b (by omega)), w44⟩, ⟨LAt_frame l55 w55 (fun b b1 b2 => o b (by omega)), w55⟩, by simp [pu], by rw [o 67 (by decide)]; exact z67, fun i hi => ?_, fun b b1 b2 => by rw [o b (by omega)]; exact ck b b1 b2, n9', c8'⟩
  obtain ⟨a, b⟩ := lh i hi
  exact ⟨LAt_frame a b (fun x x1 x2 => o x (by unfold hQ at x1; omega)), b⟩
theorem AK_32 {k : AK h L Sv Fc Hs nx ct sv er fa} (sv' er' fa' : Int32) : AK (pu h 32 (0, [.ref 33, .ref 44, .ref 55, .ref 66, .ref 167, .ref 170, .int sv', .int er', .int fa'])) L Sv Fc Hs nx ct sv' er' fa' := by
  obtain ⟨z0, ⟨l33, w33⟩, ⟨l44, w44⟩, ⟨l55, w55⟩, z66, z67, lh, ck, n9, c8⟩ := k
  have o : ∀ b, b ≠ 32 → pu h 32 (0, [.ref 33, .ref 44, .ref 55, .ref 66, .ref 167, .ref 170, .int sv', .int er', .int fa']) b = h b := fun b hb => by simp [pu, hb]
  refine ⟨by simp [pu], ⟨LAt_frame l33 w33 (fun b b1 b2 => o b (by omega)), w33⟩, ⟨LAt_frame l44 w44 (fun b b1 b2 => o b (by omega)), w44⟩, ⟨LAt_frame l55 w55 (fun b b1 b2 => o b (by omega)), w55⟩, by rw [o 66 (by decide)]; exact z66, by rw [o 67 (by decide)]; exact z67, fun i hi => ?_, fun b b1 b2 => by rw [o b (by omega)]; exact ck b b1 b2, n9, c8⟩
  obtain ⟨a, b⟩ := lh i hi
  exact ⟨LAt_frame a b (fun x x1 x2 => o x (by unfold hQ at x1; omega)), b⟩
end HIST
