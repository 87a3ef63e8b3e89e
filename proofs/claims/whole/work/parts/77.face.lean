/-! the class's changing calls, undo, save and restore -/
section FACE
variable {H : HS}
theorem m91 (rv : recv H 32 0 = true) {v : Int32} {H' : HS} (x y : Int32) (e : rcal 98 [.ref 32, .ref 5, .int x, .int y, .int 0] H = some (.inl (some (.int v)), H')) : rcal 91 [.ref 32, .int x, .int y] H = some (.inl (some (.int v)), H') := by
  simp only [c91, x91_0, x91_1, x91_4, x91_5, x91_6, x91_7, x91_10, gk_some, pk_some, qk_some, bnd_v, bnd_n, kl_int, kl_ref, kl_null, kl_un, Nat.reduceAdd, if_true, if_false, rv, e]
theorem m91n (rv : recv H 32 0 = true) {u : Nat} {H' : HS} (x y : Int32) (e : rcal 98 [.ref 32, .ref 5, .int x, .int y, .int 0] H = some (.inr u, H')) : rcal 91 [.ref 32, .int x, .int y] H = some (.inr u, H') := by
  simp only [c91, x91_0, x91_1, x91_4, x91_5, x91_6, x91_7, x91_10, gk_some, pk_some, qk_some, bnd_v, bnd_n, kl_int, kl_ref, kl_null, kl_un, Nat.reduceAdd, if_true, if_false, rv, e, bnd_x 91 _ _ _ _ _ rfl]
theorem m92 (rv : recv H 32 0 = true) {v : Int32} {H' : HS} (x y : Int32) (e : rcal 98 [.ref 32, .ref 6, .int x, .int y, .int 0] H = some (.inl (some (.int v)), H')) : rcal 92 [.ref 32, .int x, .int y] H = some (.inl (some (.int v)), H') := by
  simp only [c92, x92_0, x92_1, x92_4, x92_5, x92_6, x92_7, x92_10, gk_some, pk_some, qk_some, bnd_v, bnd_n, kl_int, kl_ref, kl_null, kl_un, Nat.reduceAdd, if_true, if_false, rv, e]
theorem m92n (rv : recv H 32 0 = true) {u : Nat} {H' : HS} (x y : Int32) (e : rcal 98 [.ref 32, .ref 6, .int x, .int y, .int 0] H = some (.inr u, H')) : rcal 92 [.ref 32, .int x, .int y] H = some (.inr u, H') := by
  simp only [c92, x92_0, x92_1, x92_4, x92_5, x92_6, x92_7, x92_10, gk_some, pk_some, qk_some, bnd_v, bnd_n, kl_int, kl_ref, kl_null, kl_un, Nat.reduceAdd, if_true, if_false, rv, e, bnd_x 92 _ _ _ _ _ rfl]
theorem m93 (rv : recv H 32 0 = true) {v : Int32} {H' : HS} (x y z : Int32) (e : rcal 98 [.ref 32, .ref 7, .int x, .int y, .int z] H = some (.inl (some (.int v)), H')) : rcal 93 [.ref 32, .int x, .int y, .int z] H = some (.inl (some (.int v)), H') := by
  simp only [c93, x93_0, x93_1, x93_4, x93_5, x93_6, x93_7, x93_10, gk_some, pk_some, qk_some, bnd_v, bnd_n, kl_int, kl_ref, kl_null, kl_un, Nat.reduceAdd, if_true, if_false, rv, e]
theorem m93n (rv : recv H 32 0 = true) {u : Nat} {H' : HS} (x y z : Int32) (e : rcal 98 [.ref 32, .ref 7, .int x, .int y, .int z] H = some (.inr u, H')) : rcal 93 [.ref 32, .int x, .int y, .int z] H = some (.inr u, H') := by
  simp only [c93, x93_0, x93_1, x93_4, x93_5, x93_6, x93_7, x93_10, gk_some, pk_some, qk_some, bnd_v, bnd_n, kl_int, kl_ref, kl_null, kl_un, Nat.reduceAdd, if_true, if_false, rv, e, bnd_x 93 _ _ _ _ _ rfl]
theorem m94 (rv : recv H 32 0 = true) {v : Int32} {H' : HS} (x : Int32) (e : rcal 98 [.ref 32, .ref 8, .int x, .int 0, .int 0] H = some (.inl (some (.int v)), H')) : rcal 94 [.ref 32, .int x] H = some (.inl (some (.int v)), H') := by
  simp only [c94, x94_0, x94_1, x94_4, x94_5, x94_6, x94_7, x94_10, gk_some, pk_some, qk_some, bnd_v, bnd_n, kl_int, kl_ref, kl_null, kl_un, Nat.reduceAdd, if_true, if_false, rv, e]
theorem m94n (rv : recv H 32 0 = true) {u : Nat} {H' : HS} (x : Int32) (e : rcal 98 [.ref 32, .ref 8, .int x, .int 0, .int 0] H = some (.inr u, H')) : rcal 94 [.ref 32, .int x] H = some (.inr u, H') := by
  simp only [c94, x94_0, x94_1, x94_4, x94_5, x94_6, x94_7, x94_10, gk_some, pk_some, qk_some, bnd_v, bnd_n, kl_int, kl_ref, kl_null, kl_un, Nat.reduceAdd, if_true, if_false, rv, e, bnd_x 94 _ _ _ _ _ rfl]
theorem m95 (rv : recv H 32 0 = true) {v : Int32} {H' : HS} (x : Int32) (e : rcal 98 [.ref 32, .ref 9, .int x, .int 0, .int 0] H = some (.inl (some (.int v)), H')) : rcal 95 [.ref 32, .int x] H = some (.inl (some (.int v)), H') := by
  simp only [c95, x95_0, x95_1, x95_4, x95_5, x95_6, x95_7, x95_10, gk_some, pk_some, qk_some, bnd_v, bnd_n, kl_int, kl_ref, kl_null, kl_un, Nat.reduceAdd, if_true, if_false, rv, e]
theorem m95n (rv : recv H 32 0 = true) {u : Nat} {H' : HS} (x : Int32) (e : rcal 98 [.ref 32, .ref 9, .int x, .int 0, .int 0] H = some (.inr u, H')) : rcal 95 [.ref 32, .int x] H = some (.inr u, H') := by
  simp only [c95, x95_0, x95_1, x95_4, x95_5, x95_6, x95_7, x95_10, gk_some, pk_some, qk_some, bnd_v, bnd_n, kl_int, kl_ref, kl_null, kl_un, Nat.reduceAdd, if_true, if_false, rv, e, bnd_x 95 _ _ _ _ _ rfl]
theorem m96 (rv : recv H 32 0 = true) {v : Int32} {H' : HS} (x : Int32) (e : rcal 98 [.ref 32, .ref 10, .int x, .int 0, .int 0] H = some (.inl (some (.int v)), H')) : rcal 96 [.ref 32, .int x] H = some (.inl (some (.int v)), H') := by
  simp only [c96, x96_0, x96_1, x96_4, x96_5, x96_6, x96_7, x96_10, gk_some, pk_some, qk_some, bnd_v, bnd_n, kl_int, kl_ref, kl_null, kl_un, Nat.reduceAdd, if_true, if_false, rv, e]
theorem m96n (rv : recv H 32 0 = true) {u : Nat} {H' : HS} (x : Int32) (e : rcal 98 [.ref 32, .ref 10, .int x, .int 0, .int 0] H = some (.inr u, H')) : rcal 96 [.ref 32, .int x] H = some (.inr u, H') := by
  simp only [c96, x96_0, x96_1, x96_4, x96_5, x96_6, x96_7, x96_10, gk_some, pk_some, qk_some, bnd_v, bnd_n, kl_int, kl_ref, kl_null, kl_un, Nat.reduceAdd, if_true, if_false, rv, e, bnd_x 96 _ _ _ _ _ rfl]
theorem m97 (rv : recv H 32 0 = true) {v : Int32} {H' : HS} (x : Int32) (e : rcal 98 [.ref 32, .ref 11, .int x, .int 0, .int 0] H = some (.inl (some (.int v)), H')) : rcal 97 [.ref 32, .int x] H = some (.inl (some (.int v)), H') := by
  simp only [c97, x97_0, x97_1, x97_4, x97_5, x97_6, x97_7, x97_10, gk_some, pk_some, qk_some, bnd_v, bnd_n, kl_int, kl_ref, kl_null, kl_un, Nat.reduceAdd, if_true, if_false, rv, e]
theorem m97n (rv : recv H 32 0 = true) {u : Nat} {H' : HS} (x : Int32) (e : rcal 98 [.ref 32, .ref 11, .int x, .int 0, .int 0] H = some (.inr u, H')) : rcal 97 [.ref 32, .int x] H = some (.inr u, H') := by
  simp only [c97, x97_0, x97_1, x97_4, x97_5, x97_6, x97_7, x97_10, gk_some, pk_some, qk_some, bnd_v, bnd_n, kl_int, kl_ref, kl_null, kl_un, Nat.reduceAdd, if_true, if_false, rv, e, bnd_x 97 _ _ _ _ _ rfl]
end FACE
section FACE2
variable {h : PH} {L Sv Fc : LN} {Hs : Nat → LN} {nx ct : Nat} {sv er fa : Int32} (r : Nat × Nat × Nat)
theorem m145n (k : AK h L Sv Fc Hs nx ct sv er fa) (c0 : ct = 0) : rcal 145 [.ref 32] (h, r) = some (.inr 2, hsx (h, r)) := by
  obtain ⟨z0, l33, l44, l55, z66, z67, lh, ck, n9, c8⟩ := k
  have g3 := gf_of z0 r 3
  have h2 := gf_of z66 r 2
  subst c0
  have e0 : ¬ (0 : Int32) < I 0 := by decide
  simp only [c145, x145_0, x145_1, x145_4, x145_7, x145_10, x145_21, x145_22, x145_25, x145_26, x145_29, x145_32, x145_35, x145_36, x145_39, x145_42, gk_some, pk_some, qk_some, bnd_v, bnd_n, kl_int, kl_ref, kl_null, kl_un, Nat.reduceAdd, if_true, if_false, g3, h2, List.getElem?_cons_zero, List.getElem?_cons_succ, e0]
theorem m145 (k : AK h L Sv Fc Hs nx ct sv er fa) (c0 : 1 ≤ ct) : rcal 145 [.ref 32] (h, r) = some (.inl (some (.int (I (ct - 1)))), (putL (pu h 66 (hO ((nx + 8) % 9) (ct - 1))) 33 (cpL L (Hs ((nx + 8) % 9))), r)) ∧ AK (putL (pu h 66 (hO ((nx + 8) % 9) (ct - 1))) 33 (cpL L (Hs ((nx + 8) % 9)))) (cpL L (Hs ((nx + 8) % 9))) Sv Fc Hs ((nx + 8) % 9) (ct - 1) sv er fa := by
  have k0 := k
  obtain ⟨z0, l33, l44, l55, z66, z67, lh, ck, n9, c8⟩ := k
  have hj : (nx + 8) % 9 < 9 := Nat.mod_lt _ (by decide)
  have k1 := AK_66 (k := k0) (nx' := (nx + 8) % 9) (ct' := ct - 1) hj (by omega)
  have hq := k1.2.2.2.2.2.2.1 _ hj
  have k2 := AK_line (k := k1) (L' := cpL L (Hs ((nx + 8) % 9))) (WS_cp l33.2 hq.2)
  refine ⟨?_, k2⟩
  have g0 := gf_of z0 r 0
  have g3 := gf_of z0 r 3
  have h2 := gf_of z66 r 2
  have e0 : (0 : Int32) < I ct := by rw [Z_lt, Z_0, Z_I (by omega)]; omega
  have rv66 := rv_of z66 r
  have e33 := m33 r z66 z67 n9 c8 c0
  have rv33 := rvL_of r k1.2.1.1
  have ecp := cp_line r (p := 33) (by decide) (by unfold hQ; omega) k1.2.1.1 k1.2.1.2 hq.1 hq.2 (Or.inr (by unfold hQ; omega))
  have g3' := gf_of k2.1 r 3
  have h2' := gf_of k2.2.2.2.2.1 r 2
  simp only [c145, x145_0, x145_1, x145_4, x145_7, x145_10, x145_21, x145_22, x145_25, x145_26, x145_29, x145_32, x145_35, x145_36, x145_39, x145_42, gk_some, pk_some, qk_some, bnd_v, bnd_n, kl_int, kl_ref, kl_null, kl_un, Nat.reduceAdd, if_true, if_false, g0, g3, h2, List.getElem?_cons_zero, List.getElem?_cons_succ, e0, rv66, e33, rv33, ecp, g3', h2']
theorem m146 (k : AK h L Sv Fc Hs nx ct sv er fa) : ∃ h', rcal 146 [.ref 32] (h, r) = some (.inl none, (h', r)) ∧ AK h' L (cpL Sv L) Fc Hs nx ct 1 er fa ∧ ∀ b, (b < 32 ∨ 167 ≤ b) → h' b = h b := by
  have k0 := k
  obtain ⟨z0, l33, l44, l55, z66, z67, lh, ck, n9, c8⟩ := k
  have k1 := AK_saved (k := k0) (L' := cpL Sv L) (WS_cp l44.2 l33.2)
  have k2 := AK_32 (k := k1) 1 er fa
  refine ⟨_, ?_, k2, ?_⟩
  · have g0 := gf_of z0 r 0
    have g1 := gf_of z0 r 1
    have rv44 := rvL_of r l44.1
    have ecp := cp_line r (p := 44) (q := 33) (by decide) (by decide) l44.1 l44.2 l33.1 l33.2 (Or.inl (by decide))
    have p6 := pf_of (k := 6) (v := .int 1) k1.1 r (by decide) (by decide) rfl
    simp only [List.set_cons_succ, List.set_cons_zero] at p6
    simp only [c146, x146_0, x146_1, x146_4, x146_5, x146_8, x146_11, x146_12, x146_13, x146_16, gk_some, pk_some, qk_some, bnd_v, bnd_n, kl_int, kl_ref, kl_null, kl_un, Nat.reduceAdd, if_true, if_false, g0, g1, List.getElem?_cons_zero, List.getElem?_cons_succ, rv44, ecp, p6]
  · intro b hb
    have e : b ≠ 32 := by omega
    simp only [pu, if_neg e]
    exact putL_out h (WS_cp l44.2 l33.2) (by omega)
theorem m147n (k : AK h L Sv Fc Hs nx ct 0 er fa) : rcal 147 [.ref 32] (h, r) = some (.inr 2, hsx (h, r)) := by
  obtain ⟨z0, l33, l44, l55, z66, z67, lh, ck, n9, c8⟩ := k
  have g6 := gf_of z0 r 6
  simp only [c147, x147_0, x147_1, x147_4, x147_7, x147_18, x147_19, x147_22, x147_23, x147_26, x147_29, x147_30, x147_33, x147_34, x147_37, gk_some, pk_some, qk_some, bnd_v, bnd_n, kl_int, kl_ref, kl_null, kl_un, Nat.reduceAdd, if_true, if_false, g6, List.getElem?_cons_zero, List.getElem?_cons_succ, ne_eq, not_true_eq_false]
theorem m147 (k : AK h L Sv Fc Hs nx ct 1 er fa) : ∃ h', rcal 147 [.ref 32] (h, r) = some (.inl none, (h', r)) ∧ AK h' (cpL L Sv) Sv Fc Hs nx 0 1 er fa ∧ ∀ b, (b < 32 ∨ 167 ≤ b) → h' b = h b := by
  have k0 := k
  obtain ⟨z0, l33, l44, l55, z66, z67, lh, ck, n9, c8⟩ := k
  have k1 := AK_line (k := k0) (L' := cpL L Sv) (WS_cp l33.2 l44.2)
  have k2 := AK_66 (k := k1) (nx' := nx) (ct' := 0) n9 (by decide)
  refine ⟨_, ?_, k2, ?_⟩
  · have g6 := gf_of z0 r 6
    have g0 := gf_of z0 r 0
    have g1 := gf_of z0 r 1
    have rv33 := rvL_of r l33.1
    have ecp := cp_line r (p := 33) (q := 44) (by decide) (by decide) l33.1 l33.2 l44.1 l44.2 (Or.inr (by decide))
    have g3 := gf_of k1.1 r 3
    have p2 := pf_of (k := 2) (v := .int 0) k1.2.2.2.2.1 r (by decide) (by decide) rfl
    simp only [List.set_cons_succ, List.set_cons_zero] at p2
    have e1 : ¬ (1 : Int32) = 0 := by decide
    simp only [c147, x147_0, x147_1, x147_4, x147_7, x147_18, x147_19, x147_22, x147_23, x147_26, x147_29, x147_30, x147_33, x147_34, x147_37, gk_some, pk_some, qk_some, bnd_v, bnd_n, kl_int, kl_ref, kl_null, kl_un, Nat.reduceAdd, if_true, if_false, g6, g0, g1, List.getElem?_cons_zero, List.getElem?_cons_succ, ne_eq, e1, not_false_eq_true, rv33, ecp, g3, p2]
    rfl
  · intro b hb
    have e : b ≠ 66 := by omega
    simp only [pu, if_neg e]
    exact putL_out h (WS_cp l33.2 l44.2) (by omega)
end FACE2
