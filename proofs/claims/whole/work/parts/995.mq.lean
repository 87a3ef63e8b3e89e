/-! the reference's queries -/
theorem fnd_num (S : List SL) (v : Int32) : (prs S).find? (numP v) = S.find? (fndP v) := by
  unfold prs
  rw [List.find?_filter]
  congr 1
  funext s
  unfold fndP numP
  by_cases e : s.2.1 = 1 <;> simp [e]
theorem sta_pr (v : Int32) : ∀ s, staP v s = true → s.2.1 ≠ 1 := fun s q => by
  unfold staP at q; simp only [Bool.and_eq_true, decide_eq_true_eq] at q; rw [q.1]; decide
section MQ
variable (h : PH) {p : Nat} (g : Nat → Int32) (A : Nat → Nat → Int32) (r : Nat × Nat × Nat) {L : LN} {X N : Int}
theorem m149 : rcal 149 [.ref p] (mput h p g A, r) = some (.inl (some (.int (g 9))), (mput h p g A, r)) := by
  simp only [c149, x149_0, x149_1, x149_4, gk_some, pk_some, qk_some, bnd_v, bnd_n, kl_int, kl_ref, kl_null, kl_un, Nat.reduceAdd, if_true, if_false, gm0, gm1, gm2, gm3, gm4, gm5, gm6, gm7, gm8, gm9, gm10, gm11, gm12, gm13, gm14, gm15, gm16, gm17, gm18, gm19, gm20, gm21, gm22, rvM]
theorem m189 (hp : 32 ≤ p) {k : Nat} (hk : k < 76) : rcal 189 [.ref p, .int (I k)] (mput h p g A, r) = some (.inl (some (.int (A 1 k))), (mput h p (up g 9 0) A, r)) := by
  have w := pm9 h g A r hp 0
  have b := rn1 h (up g 9 0) A r (p := p) hk
  simp only [c189, x189_0, x189_1, x189_2, x189_5, x189_6, x189_9, x189_10, x189_11, gk_some, pk_some, qk_some, bnd_v, bnd_n, kl_int, kl_ref, kl_null, kl_un, Nat.reduceAdd, if_true, if_false, gm0, gm1, gm2, gm3, gm4, gm5, gm6, gm7, gm8, gm9, gm10, gm11, gm12, gm13, gm14, gm15, gm16, gm17, gm18, gm19, gm20, gm21, gm22, rvM, w, b]
theorem u190 (hp : 32 ≤ p) (hM : MRL (A 1) L) : rcal 190 [.ref p] (mput h p g A, r) = some (.inl (some (.int (L.1 0))), (mput h p (up g 9 0) A, r)) := by
  have t := m189 h g A r hp (k := 0) (by decide)
  rw [show I 0 = 0 from rfl, hM.1.1] at t
  simp only [c190, x190_0, x190_1, x190_2, x190_5, gk_some, pk_some, qk_some, bnd_v, bnd_n, kl_int, kl_ref, kl_null, kl_un, Nat.reduceAdd, if_true, if_false, gm0, gm1, gm2, gm3, gm4, gm5, gm6, gm7, gm8, gm9, gm10, gm11, gm12, gm13, gm14, gm15, gm16, gm17, gm18, gm19, gm20, gm21, gm22, rvM, rvM, t]
theorem u199 (hp : 32 ≤ p) (hM : MRL (A 1) L) (hL : FL X N L) : rcal 199 [.ref p] (mput h p g A, r) = some (.inl (some (.int (L.1 5))), (mput h p (up g 9 0) A, r)) := by
  obtain ⟨n, G, -⟩ := hL
  have t := m189 h g A r hp (k := 1) (by decide)
  rw [show I 1 = 1 from rfl, hM.2.1.1, ← G.2.2.1] at t
  simp only [c199, x199_0, x199_1, x199_2, x199_5, gk_some, pk_some, qk_some, bnd_v, bnd_n, kl_int, kl_ref, kl_null, kl_un, Nat.reduceAdd, if_true, if_false, gm0, gm1, gm2, gm3, gm4, gm5, gm6, gm7, gm8, gm9, gm10, gm11, gm12, gm13, gm14, gm15, gm16, gm17, gm18, gm19, gm20, gm21, gm22, rvM, rvM, t]
theorem u216 (hp : 32 ≤ p) (hM : MRL (A 1) L) : rcal 216 [.ref p] (mput h p g A, r) = some (.inl (some (.int (L.1 7))), (mput h p (up g 9 0) A, r)) := by
  have t := m189 h g A r hp (k := 3) (by decide)
  rw [show I 3 = 3 from rfl, hM.1.2.2.1] at t
  simp only [c216, x216_0, x216_1, x216_2, x216_5, gk_some, pk_some, qk_some, bnd_v, bnd_n, kl_int, kl_ref, kl_null, kl_un, Nat.reduceAdd, if_true, if_false, gm0, gm1, gm2, gm3, gm4, gm5, gm6, gm7, gm8, gm9, gm10, gm11, gm12, gm13, gm14, gm15, gm16, gm17, gm18, gm19, gm20, gm21, gm22, rvM, rvM, t]
theorem u217 (hp : 32 ≤ p) (hM : MRL (A 1) L) : rcal 217 [.ref p] (mput h p g A, r) = some (.inl (some (.int (L.1 8))), (mput h p (up g 9 0) A, r)) := by
  have t := m189 h g A r hp (k := 4) (by decide)
  rw [show I 4 = 4 from rfl, hM.1.2.2.2.1] at t
  simp only [c217, x217_0, x217_1, x217_2, x217_5, gk_some, pk_some, qk_some, bnd_v, bnd_n, kl_int, kl_ref, kl_null, kl_un, Nat.reduceAdd, if_true, if_false, gm0, gm1, gm2, gm3, gm4, gm5, gm6, gm7, gm8, gm9, gm10, gm11, gm12, gm13, gm14, gm15, gm16, gm17, gm18, gm19, gm20, gm21, gm22, rvM, rvM, t]
theorem u219 (hp : 32 ≤ p) (hM : MRL (A 1) L) : rcal 219 [.ref p] (mput h p g A, r) = some (.inl (some (.long (L.1 10).toInt64)), (mput h p (up g 9 0) A, r)) := by
  have t := m189 h g A r hp (k := 8) (by decide)
  rw [show I 8 = 8 from rfl, hM.1.2.2.2.2.2.2.2.1] at t
  simp only [c219, x219_0, x219_1, x219_3, x219_6, x219_7, gk_some, pk_some, qk_some, bnd_v, bnd_n, kl_int, kl_ref, kl_null, kl_un, Nat.reduceAdd, if_true, if_false, gm0, gm1, gm2, gm3, gm4, gm5, gm6, gm7, gm8, gm9, gm10, gm11, gm12, gm13, gm14, gm15, gm16, gm17, gm18, gm19, gm20, gm21, gm22, rvM, rvM, t]
theorem m150z (hp : 32 ≤ p) (x : Int32) : rcal 150 [.ref p, .int x] (mput h p (up g 9 0) A, r) = some (.inl (some (.int (-1))), (mput h p (up g 9 x) A, r)) := by
  have t := m150 h (up g 9 0) r hp A x
  rw [up_up] at t; exact t
theorem St_k (hL : FL X N L) {v : Int32} (hv : isSt L v) : ∃ n k, L.1 0 = I n ∧ n ≤ 7 ∧ v = I k ∧ k < n ∧ v.toNatClampNeg = k := by
  obtain ⟨n, G, -⟩ := hL
  have hn : L.1 0 = I n := G.2.1.1
  have h7 : n ≤ 7 := G.2.1.2
  have c2 := hv.2
  rw [hn] at c2
  exact ⟨n, v.toNatClampNeg, hn, h7, I_of hv.1, nat_lt2 hv.1 c2 h7, rfl⟩
theorem Se_k (hL : FL X N L) {v : Int32} (hv : isSe L v) : ∃ n k, L.1 0 = I n ∧ n ≤ 7 ∧ v = I k ∧ k + 1 < n ∧ v.toNatClampNeg = k := by
  obtain ⟨n, G, -⟩ := hL
  have hn : L.1 0 = I n := G.2.1.1
  have h7 : n ≤ 7 := G.2.1.2
  have c2 := hv.2
  rw [hn] at c2
  have c0 := hv.1
  have zn : Z (I n) = n := Z_I (by omega)
  rw [Z_lt, Z_sub (by rw [zn, Z_1]; omega) (by rw [zn, Z_1]; omega), zn, Z_1] at c2
  rw [Z_lt, Z_0] at c0
  have hz := Z_nat (x := v) (by omega)
  exact ⟨n, v.toNatClampNeg, hn, h7, I_of hv.1, by omega, rfl⟩
theorem Nn (hL : FL X N L) : ∃ n, L.1 0 = I n ∧ n ≤ 7 := by
  obtain ⟨n, G, -⟩ := hL
  exact ⟨n, G.2.1.1, G.2.1.2⟩
theorem v155 (hM : MRL (A 1) L) (hL : FL X N L) {v : Int32} (hv : isSt L v) (g : Nat → Int32) : rcal 155 [.ref p, .int v] (mput h p g A, r) = some (.inl (some (.int 1)), (mput h p g A, r)) := by
  obtain ⟨n, k, hn, h7, e, hk, -⟩ := St_k hL hv
  have t := m155 h g A r (p := p) (n := n) (by rw [hM.1.1]; exact hn) h7 v
  rw [decide_eq_true (show ¬ v < 0 ∧ v < I n by rw [← hn]; exact hv)] at t
  exact t
theorem v155n (hM : MRL (A 1) L) (hL : FL X N L) {v : Int32} (hv : ¬ isSt L v) (g : Nat → Int32) : rcal 155 [.ref p, .int v] (mput h p g A, r) = some (.inl (some (.int 0)), (mput h p g A, r)) := by
  obtain ⟨n, hn, h7⟩ := Nn hL
  have t := m155 h g A r (p := p) (n := n) (by rw [hM.1.1]; exact hn) h7 v
  rw [decide_eq_false (show ¬ (¬ v < 0 ∧ v < I n) by rw [← hn]; exact hv)] at t
  exact t
theorem v156 (hM : MRL (A 1) L) (hL : FL X N L) {v : Int32} (hv : isSe L v) (g : Nat → Int32) : rcal 156 [.ref p, .int v] (mput h p g A, r) = some (.inl (some (.int 1)), (mput h p g A, r)) := by
  obtain ⟨n, k, hn, h7, e, hk, -⟩ := Se_k hL hv
  have t := m156 h g A r (p := p) (n := n) (by rw [hM.1.1]; exact hn) h7 v
  rw [decide_eq_true (show ¬ v < 0 ∧ v < I n - 1 by rw [← hn]; exact hv)] at t
  exact t
theorem v156n (hM : MRL (A 1) L) (hL : FL X N L) {v : Int32} (hv : ¬ isSe L v) (g : Nat → Int32) : rcal 156 [.ref p, .int v] (mput h p g A, r) = some (.inl (some (.int 0)), (mput h p g A, r)) := by
  obtain ⟨n, hn, h7⟩ := Nn hL
  have t := m156 h g A r (p := p) (n := n) (by rw [hM.1.1]; exact hn) h7 v
  rw [decide_eq_false (show ¬ (¬ v < 0 ∧ v < I n - 1) by rw [← hn]; exact hv)] at t
  exact t
theorem u191 (hp : 32 ≤ p) (hM : MRL (A 1) L) (hL : FL X N L) {v : Int32} (hv : isSt L v) : rcal 191 [.ref p, .int v] (mput h p g A, r) = some (.inl (some (.int (L.2.1 v.toNatClampNeg))), (mput h p (up g 9 0) A, r)) := by
  have w := pm9 h g A r hp 0
  have t := v155 h A r (p := p) hM hL hv (up g 9 0)
  obtain ⟨n, k, hn, h7, rfl, hk, ek⟩ := St_k hL hv
  have o1 : ¬ (1 : Int32) = 0 := by decide
  have b := rn1 h (up g 9 0) A r (p := p) (n := 9 + k) (by omega)
  rw [hM.1.2.2.2.2.2.2.2.2.1 _ (by omega)] at b
  rw [ek]
  simp only [c191, x191_0, x191_1, x191_2, x191_5, x191_6, x191_7, x191_10, x191_13, x191_14, x191_17, x191_19, x191_20, x191_21, x191_22, x191_30, x191_25, x191_26, x191_27, gk_some, pk_some, qk_some, bnd_v, bnd_n, kl_int, kl_ref, kl_null, kl_un, Nat.reduceAdd, if_true, if_false, gm0, gm1, gm2, gm3, gm4, gm5, gm6, gm7, gm8, gm9, gm10, gm11, gm12, gm13, gm14, gm15, gm16, gm17, gm18, gm19, gm20, gm21, gm22, rvM, rvM, w, t, o1, Il9, b]
theorem u191n (hp : 32 ≤ p) (hM : MRL (A 1) L) (hL : FL X N L) {v : Int32} (hv : ¬ isSt L v) : rcal 191 [.ref p, .int v] (mput h p g A, r) = some (.inl (some (.int (-1))), (mput h p (up g 9 1) A, r)) := by
  have w := pm9 h g A r hp 0
  have t := v155n h A r (p := p) hM hL hv (up g 9 0)
  have z := m150z h g A r hp 1
  simp only [c191, x191_0, x191_1, x191_2, x191_5, x191_6, x191_7, x191_10, x191_13, x191_14, x191_17, x191_19, x191_20, x191_21, x191_22, x191_30, x191_25, x191_26, x191_27, gk_some, pk_some, qk_some, bnd_v, bnd_n, kl_int, kl_ref, kl_null, kl_un, Nat.reduceAdd, if_true, if_false, gm0, gm1, gm2, gm3, gm4, gm5, gm6, gm7, gm8, gm9, gm10, gm11, gm12, gm13, gm14, gm15, gm16, gm17, gm18, gm19, gm20, gm21, gm22, rvM, rvM, w, t, z]
theorem u192 (hp : 32 ≤ p) (hM : MRL (A 1) L) (hL : FL X N L) {v : Int32} (hv : isSt L v) : rcal 192 [.ref p, .int v] (mput h p g A, r) = some (.inl (some (.int (freN L.2.1 L.2.2.2.2 v))), (mput h p (up g 9 0) A, r)) := by
  have w := pm9 h g A r hp 0
  have t := v155 h A r (p := p) hM hL hv (up g 9 0)
  obtain ⟨m, G, -⟩ := id hL
  have ka := (GI_brK G).2.2.1
  obtain ⟨n, k, hn, h7, rfl, hk, ek⟩ := St_k hL hv
  have o1 : ¬ (1 : Int32) = 0 := by decide
  have b := m163 h (up g 9 0) A r (p := p) hM.2.1 ka (n := k) (by omega)
  rw [hM.1.2.2.2.2.2.2.2.2.1 _ (by omega)] at b
  rw [freN_prs, ek]
  simp only [c192, x192_0, x192_1, x192_2, x192_5, x192_6, x192_7, x192_10, x192_13, x192_14, x192_15, x192_18, x192_26, x192_21, x192_22, x192_23, gk_some, pk_some, qk_some, bnd_v, bnd_n, kl_int, kl_ref, kl_null, kl_un, Nat.reduceAdd, if_true, if_false, gm0, gm1, gm2, gm3, gm4, gm5, gm6, gm7, gm8, gm9, gm10, gm11, gm12, gm13, gm14, gm15, gm16, gm17, gm18, gm19, gm20, gm21, gm22, rvM, rvM, w, t, o1, b]
theorem u192n (hp : 32 ≤ p) (hM : MRL (A 1) L) (hL : FL X N L) {v : Int32} (hv : ¬ isSt L v) : rcal 192 [.ref p, .int v] (mput h p g A, r) = some (.inl (some (.int (-1))), (mput h p (up g 9 1) A, r)) := by
  have w := pm9 h g A r hp 0
  have t := v155n h A r (p := p) hM hL hv (up g 9 0)
  have z := m150z h g A r hp 1
  simp only [c192, x192_0, x192_1, x192_2, x192_5, x192_6, x192_7, x192_10, x192_13, x192_14, x192_15, x192_18, x192_26, x192_21, x192_22, x192_23, gk_some, pk_some, qk_some, bnd_v, bnd_n, kl_int, kl_ref, kl_null, kl_un, Nat.reduceAdd, if_true, if_false, gm0, gm1, gm2, gm3, gm4, gm5, gm6, gm7, gm8, gm9, gm10, gm11, gm12, gm13, gm14, gm15, gm16, gm17, gm18, gm19, gm20, gm21, gm22, rvM, rvM, w, t, z]
theorem u193 (hp : 32 ≤ p) (hM : MRL (A 1) L) (hL : FL X N L) {v : Int32} (hv : isSt L v) : rcal 193 [.ref p, .int v] (mput h p g A, r) = some (.inl (some (.int (I (L.2.2.2.2.countP (staP v))))), (mput h p (up g 9 0) A, r)) := by
  have w := pm9 h g A r hp 0
  have t := v155 h A r (p := p) hM hL hv (up g 9 0)
  have o1 : ¬ (1 : Int32) = 0 := by decide
  have b := m161 h (up g 9 0) A r (p := p) hM.2.1 v
  rw [cnt_prs (sta_pr v)] at b
  simp only [c193, x193_0, x193_1, x193_2, x193_5, x193_6, x193_7, x193_10, x193_13, x193_14, x193_15, x193_18, x193_26, x193_21, x193_22, x193_23, gk_some, pk_some, qk_some, bnd_v, bnd_n, kl_int, kl_ref, kl_null, kl_un, Nat.reduceAdd, if_true, if_false, gm0, gm1, gm2, gm3, gm4, gm5, gm6, gm7, gm8, gm9, gm10, gm11, gm12, gm13, gm14, gm15, gm16, gm17, gm18, gm19, gm20, gm21, gm22, rvM, rvM, w, t, o1, b]
theorem u193n (hp : 32 ≤ p) (hM : MRL (A 1) L) (hL : FL X N L) {v : Int32} (hv : ¬ isSt L v) : rcal 193 [.ref p, .int v] (mput h p g A, r) = some (.inl (some (.int (-1))), (mput h p (up g 9 1) A, r)) := by
  have w := pm9 h g A r hp 0
  have t := v155n h A r (p := p) hM hL hv (up g 9 0)
  have z := m150z h g A r hp 1
  simp only [c193, x193_0, x193_1, x193_2, x193_5, x193_6, x193_7, x193_10, x193_13, x193_14, x193_15, x193_18, x193_26, x193_21, x193_22, x193_23, gk_some, pk_some, qk_some, bnd_v, bnd_n, kl_int, kl_ref, kl_null, kl_un, Nat.reduceAdd, if_true, if_false, gm0, gm1, gm2, gm3, gm4, gm5, gm6, gm7, gm8, gm9, gm10, gm11, gm12, gm13, gm14, gm15, gm16, gm17, gm18, gm19, gm20, gm21, gm22, rvM, rvM, w, t, z]
theorem u194 (hp : 32 ≤ p) (hM : MRL (A 1) L) (hL : FL X N L) {v : Int32} (hv : isSe L v) : rcal 194 [.ref p, .int v] (mput h p g A, r) = some (.inl (some (.int (L.2.2.1 v.toNatClampNeg))), (mput h p (up g 9 0) A, r)) := by
  have w := pm9 h g A r hp 0
  have t := v156 h A r (p := p) hM hL hv (up g 9 0)
  obtain ⟨n, k, hn, h7, rfl, hk, ek⟩ := Se_k hL hv
  have o1 : ¬ (1 : Int32) = 0 := by decide
  have b := rn1 h (up g 9 0) A r (p := p) (n := 16 + k) (by omega)
  rw [hM.1.2.2.2.2.2.2.2.2.2 _ (by omega)] at b
  rw [ek]
  simp only [c194, x194_0, x194_1, x194_2, x194_5, x194_6, x194_7, x194_10, x194_13, x194_14, x194_17, x194_19, x194_20, x194_21, x194_22, x194_30, x194_25, x194_26, x194_27, gk_some, pk_some, qk_some, bnd_v, bnd_n, kl_int, kl_ref, kl_null, kl_un, Nat.reduceAdd, if_true, if_false, gm0, gm1, gm2, gm3, gm4, gm5, gm6, gm7, gm8, gm9, gm10, gm11, gm12, gm13, gm14, gm15, gm16, gm17, gm18, gm19, gm20, gm21, gm22, rvM, rvM, w, t, o1, Il16, b]
theorem u194n (hp : 32 ≤ p) (hM : MRL (A 1) L) (hL : FL X N L) {v : Int32} (hv : ¬ isSe L v) : rcal 194 [.ref p, .int v] (mput h p g A, r) = some (.inl (some (.int (-1))), (mput h p (up g 9 1) A, r)) := by
  have w := pm9 h g A r hp 0
  have t := v156n h A r (p := p) hM hL hv (up g 9 0)
  have z := m150z h g A r hp 1
  simp only [c194, x194_0, x194_1, x194_2, x194_5, x194_6, x194_7, x194_10, x194_13, x194_14, x194_17, x194_19, x194_20, x194_21, x194_22, x194_30, x194_25, x194_26, x194_27, gk_some, pk_some, qk_some, bnd_v, bnd_n, kl_int, kl_ref, kl_null, kl_un, Nat.reduceAdd, if_true, if_false, gm0, gm1, gm2, gm3, gm4, gm5, gm6, gm7, gm8, gm9, gm10, gm11, gm12, gm13, gm14, gm15, gm16, gm17, gm18, gm19, gm20, gm21, gm22, rvM, rvM, w, t, z]
theorem idx_n9 {D : List SL} (h6 : D.length < 6) : ¬ I D.length = -1 := fun y => by
  have y2 : Z (I D.length) = -1 := by rw [y]; rfl
  rw [Z_I (by omega)] at y2; omega
theorem hol_at (hM : MRL (A 1) L) {v : Int32} {s : SL} (hf : L.2.2.2.2.find? (holP v) = some s) : ∃ D R, prs L.2.2.2.2 = D ++ s :: R ∧ D.length < 6 ∧ fidx (holP v) (prs L.2.2.2.2) 0 = I D.length := by
  have hfp := find_prs (q := holP v) (hol_prs v) L.2.2.2.2
  obtain ⟨D, R, hP, hfi⟩ := fidx_some (q := holP v) (P := prs L.2.2.2.2) 0 (by rw [hfp]; exact hf)
  rw [Nat.zero_add] at hfi
  exact ⟨D, R, hP, by have := hM.2.1.2.1; rw [hP] at this; simp at this; omega, hfi⟩
theorem num_at (hM : MRL (A 1) L) {v : Int32} {s : SL} (hf : L.2.2.2.2.find? (fndP v) = some s) : ∃ D R, prs L.2.2.2.2 = D ++ s :: R ∧ D.length < 6 ∧ fidx (numP v) (prs L.2.2.2.2) 0 = I D.length := by
  obtain ⟨D, R, hP, hfi⟩ := fidx_some (q := numP v) (P := prs L.2.2.2.2) 0 (by rw [fnd_num]; exact hf)
  rw [Nat.zero_add] at hfi
  exact ⟨D, R, hP, by have := hM.2.1.2.1; rw [hP] at this; simp at this; omega, hfi⟩
theorem v157 (hM : MRL (A 1) L) {v : Int32} {s : SL} (hf : L.2.2.2.2.find? (fndP v) = some s) (g : Nat → Int32) : ∃ D R, prs L.2.2.2.2 = D ++ s :: R ∧ D.length < 6 ∧ rcal 157 [.ref p, .int v] (mput h p g A, r) = some (.inl (some (.int (I D.length))), (mput h p g A, r)) := by
  obtain ⟨D, R, hP, hD, hfi⟩ := num_at A hM hf
  have t := m157 h g A r (p := p) hM.2.1 v
  rw [hfi] at t
  exact ⟨D, R, hP, hD, t⟩
theorem v157n (hM : MRL (A 1) L) {v : Int32} (hf : L.2.2.2.2.find? (fndP v) = none) (g : Nat → Int32) : rcal 157 [.ref p, .int v] (mput h p g A, r) = some (.inl (some (.int (-1))), (mput h p g A, r)) := by
  have t := m157 h g A r (p := p) hM.2.1 v
  rw [fidx_none 0 (by rw [fnd_num]; exact hf)] at t
  exact t
theorem v160n (hM : MRL (A 1) L) {v : Int32} (hf : L.2.2.2.2.find? (holP v) = none) (g : Nat → Int32) : rcal 160 [.ref p, .int v] (mput h p g A, r) = some (.inl (some (.int (-1))), (mput h p g A, r)) := by
  have t := m160 h g A r (p := p) hM.2.1 v
  rw [fidx_none 0 (by rw [find_prs (hol_prs v)]; exact hf)] at t
  exact t
theorem u195 (hp : 32 ≤ p) (hM : MRL (A 1) L) (hL : FL X N L) {v : Int32} (hv : isSe L v) : rcal 195 [.ref p, .int v] (mput h p g A, r) = some (.inl (some (.int (b2i (L.2.2.2.2.find? (holP v)).isNone))), (mput h p (up g 9 0) A, r)) := by
  have w := pm9 h g A r hp 0
  have t := v156 h A r (p := p) hM hL hv (up g 9 0)
  have o1 : ¬ (1 : Int32) = 0 := by decide
  cases hf : L.2.2.2.2.find? (holP v) with
  | none =>
    have b := v160n h A r (p := p) hM hf (up g 9 0)
    simp only [c195, x195_0, x195_1, x195_2, x195_5, x195_6, x195_7, x195_10, x195_13, x195_14, x195_15, x195_18, x195_19, x195_20, x195_21, x195_22, x195_23, x195_26, x195_27, x195_30, x195_31, x195_35, x195_34, gk_some, pk_some, qk_some, bnd_v, bnd_n, kl_int, kl_ref, kl_null, kl_un, Nat.reduceAdd, if_true, if_false, gm0, gm1, gm2, gm3, gm4, gm5, gm6, gm7, gm8, gm9, gm10, gm11, gm12, gm13, gm14, gm15, gm16, gm17, gm18, gm19, gm20, gm21, gm22, rvM, rvM, w, t, o1, b, Option.isNone_none, b2i_t, fit1]
  | some s =>
    obtain ⟨D, R, hP, hD, hfi⟩ := hol_at A hM hf
    have b := m160 h (up g 9 0) A r (p := p) hM.2.1 v
    rw [hfi] at b
    simp only [c195, x195_0, x195_1, x195_2, x195_5, x195_6, x195_7, x195_10, x195_13, x195_14, x195_15, x195_18, x195_19, x195_20, x195_21, x195_22, x195_23, x195_26, x195_27, x195_30, x195_31, x195_35, x195_34, gk_some, pk_some, qk_some, bnd_v, bnd_n, kl_int, kl_ref, kl_null, kl_un, Nat.reduceAdd, if_true, if_false, gm0, gm1, gm2, gm3, gm4, gm5, gm6, gm7, gm8, gm9, gm10, gm11, gm12, gm13, gm14, gm15, gm16, gm17, gm18, gm19, gm20, gm21, gm22, rvM, rvM, w, t, o1, b, idx_n9 hD, Option.isNone_some, b2i_f, fit0]
theorem u195n (hp : 32 ≤ p) (hM : MRL (A 1) L) (hL : FL X N L) {v : Int32} (hv : ¬ isSe L v) : rcal 195 [.ref p, .int v] (mput h p g A, r) = some (.inl (some (.int 0)), (mput h p (up g 9 1) A, r)) := by
  have w := pm9 h g A r hp 0
  have t := v156n h A r (p := p) hM hL hv (up g 9 0)
  have o1 : ¬ (1 : Int32) = 0 := by decide
  have z := m150z h g A r hp 1
  simp only [c195, x195_0, x195_1, x195_2, x195_5, x195_6, x195_7, x195_10, x195_13, x195_14, x195_15, x195_18, x195_19, x195_20, x195_21, x195_22, x195_23, x195_26, x195_27, x195_30, x195_31, x195_35, x195_34, gk_some, pk_some, qk_some, bnd_v, bnd_n, kl_int, kl_ref, kl_null, kl_un, Nat.reduceAdd, if_true, if_false, gm0, gm1, gm2, gm3, gm4, gm5, gm6, gm7, gm8, gm9, gm10, gm11, gm12, gm13, gm14, gm15, gm16, gm17, gm18, gm19, gm20, gm21, gm22, rvM, rvM, w, t, o1, z, fit0]
theorem u196f (hp : 32 ≤ p) (hM : MRL (A 1) L) (hL : FL X N L) {v : Int32} (hv : isSe L v) (hf : L.2.2.2.2.find? (holP v) = none) : rcal 196 [.ref p, .int v] (mput h p g A, r) = some (.inl (some (.int (-1))), (mput h p (up g 9 2) A, r)) := by
  have w := pm9 h g A r hp 0
  have t := v156 h A r (p := p) hM hL hv (up g 9 0)
  have o1 : ¬ (1 : Int32) = 0 := by decide
  have z := m150z h g A r hp 2
  have b := v160n h A r (p := p) hM hf (up g 9 0)
  simp only [c196, x196_0, x196_1, x196_2, x196_5, x196_6, x196_7, x196_10, x196_13, x196_14, x196_15, x196_18, x196_19, x196_20, x196_21, x196_24, x196_25, x196_28, x196_29, x196_30, x196_33, x196_49, x196_36, x196_37, x196_40, x196_41, x196_42, x196_45, x196_48, gk_some, pk_some, qk_some, bnd_v, bnd_n, kl_int, kl_ref, kl_null, kl_un, Nat.reduceAdd, if_true, if_false, gm0, gm1, gm2, gm3, gm4, gm5, gm6, gm7, gm8, gm9, gm10, gm11, gm12, gm13, gm14, gm15, gm16, gm17, gm18, gm19, gm20, gm21, gm22, rvM, rvM, w, t, o1, b, z]
theorem u196 (hp : 32 ≤ p) (hM : MRL (A 1) L) (hL : FL X N L) {v : Int32} (hv : isSe L v) {s : SL} (hf : L.2.2.2.2.find? (holP v) = some s) : rcal 196 [.ref p, .int v] (mput h p g A, r) = some (.inl (some (.int (s.2.2 1))), (mput h p (up g 9 0) A, r)) := by
  have w := pm9 h g A r hp 0
  have t := v156 h A r (p := p) hM hL hv (up g 9 0)
  have o1 : ¬ (1 : Int32) = 0 := by decide
  obtain ⟨D, R, hP, hD, hfi⟩ := hol_at A hM hf
  have b := m160 h (up g 9 0) A r (p := p) hM.2.1 v
  rw [hfi] at b
  have rd := mrd0 h (up g 9 0) A r (p := p) hM.2.1 hP
  simp only [c196, x196_0, x196_1, x196_2, x196_5, x196_6, x196_7, x196_10, x196_13, x196_14, x196_15, x196_18, x196_19, x196_20, x196_21, x196_24, x196_25, x196_28, x196_29, x196_30, x196_33, x196_49, x196_36, x196_37, x196_40, x196_41, x196_42, x196_45, x196_48, gk_some, pk_some, qk_some, bnd_v, bnd_n, kl_int, kl_ref, kl_null, kl_un, Nat.reduceAdd, if_true, if_false, gm0, gm1, gm2, gm3, gm4, gm5, gm6, gm7, gm8, gm9, gm10, gm11, gm12, gm13, gm14, gm15, gm16, gm17, gm18, gm19, gm20, gm21, gm22, rvM, rvM, w, t, o1, b, idx_n9 hD, m154, rd]
theorem u196n (hp : 32 ≤ p) (hM : MRL (A 1) L) (hL : FL X N L) {v : Int32} (hv : ¬ isSe L v) : rcal 196 [.ref p, .int v] (mput h p g A, r) = some (.inl (some (.int (-1))), (mput h p (up g 9 1) A, r)) := by
  have w := pm9 h g A r hp 0
  have t := v156n h A r (p := p) hM hL hv (up g 9 0)
  have z := m150z h g A r hp 1
  simp only [c196, x196_0, x196_1, x196_2, x196_5, x196_6, x196_7, x196_10, x196_13, x196_14, x196_15, x196_18, x196_19, x196_20, x196_21, x196_24, x196_25, x196_28, x196_29, x196_30, x196_33, x196_49, x196_36, x196_37, x196_40, x196_41, x196_42, x196_45, x196_48, gk_some, pk_some, qk_some, bnd_v, bnd_n, kl_int, kl_ref, kl_null, kl_un, Nat.reduceAdd, if_true, if_false, gm0, gm1, gm2, gm3, gm4, gm5, gm6, gm7, gm8, gm9, gm10, gm11, gm12, gm13, gm14, gm15, gm16, gm17, gm18, gm19, gm20, gm21, gm22, rvM, rvM, w, t, z]
theorem u197 (hp : 32 ≤ p) (hM : MRL (A 1) L) (hL : FL X N L) {v u : Int32} (hv : isSt L v) (hu : isSt L u) : rcal 197 [.ref p, .int v, .int u] (mput h p g A, r) = some (.inl (some (.int (betw L.2.2.1 v.toNatClampNeg u.toNatClampNeg))), (mput h p (up g 9 0) A, r)) := by
  have w := pm9 h g A r hp 0
  have t := v155 h A r (p := p) hM hL hv (up g 9 0)
  have t2 := v155 h A r (p := p) hM hL hu (up g 9 0)
  have o1 : ¬ (1 : Int32) = 0 := by decide
  obtain ⟨n, k, hn, h7, rfl, hk, ek⟩ := St_k hL hv
  obtain ⟨n', j, hn', h7', rfl, hj, ej⟩ := St_k hL hu
  have b := m164 h (up g 9 0) A r (p := p) (x := k) (y := j) (by omega) (by omega)
  rw [betw_congr (g' := L.2.2.1) (by omega) (by omega) (fun i hi => hM.1.2.2.2.2.2.2.2.2.2 i hi)] at b
  rw [ek, ej]
  simp only [c197, x197_0, x197_1, x197_2, x197_5, x197_6, x197_7, x197_10, x197_13, x197_14, x197_15, x197_18, x197_21, x197_22, x197_23, x197_24, x197_27, x197_35, x197_30, x197_31, x197_32, gk_some, pk_some, qk_some, bnd_v, bnd_n, kl_int, kl_ref, kl_null, kl_un, Nat.reduceAdd, if_true, if_false, gm0, gm1, gm2, gm3, gm4, gm5, gm6, gm7, gm8, gm9, gm10, gm11, gm12, gm13, gm14, gm15, gm16, gm17, gm18, gm19, gm20, gm21, gm22, rvM, rvM, w, t, t2, o1, b]
theorem u197n (hp : 32 ≤ p) (hM : MRL (A 1) L) (hL : FL X N L) {v u : Int32} (hv : ¬ (isSt L v ∧ isSt L u)) : rcal 197 [.ref p, .int v, .int u] (mput h p g A, r) = some (.inl (some (.int (-1))), (mput h p (up g 9 1) A, r)) := by
  have w := pm9 h g A r hp 0
  have z := m150z h g A r hp 1
  have o1 : ¬ (1 : Int32) = 0 := by decide
  by_cases c : isSt L v
  · have t := v155 h A r (p := p) hM hL c (up g 9 0)
    have t2 := v155n h A r (p := p) hM hL (fun q => hv ⟨c, q⟩) (up g 9 0)
    simp only [c197, x197_0, x197_1, x197_2, x197_5, x197_6, x197_7, x197_10, x197_13, x197_14, x197_15, x197_18, x197_21, x197_22, x197_23, x197_24, x197_27, x197_35, x197_30, x197_31, x197_32, gk_some, pk_some, qk_some, bnd_v, bnd_n, kl_int, kl_ref, kl_null, kl_un, Nat.reduceAdd, if_true, if_false, gm0, gm1, gm2, gm3, gm4, gm5, gm6, gm7, gm8, gm9, gm10, gm11, gm12, gm13, gm14, gm15, gm16, gm17, gm18, gm19, gm20, gm21, gm22, rvM, rvM, w, t, t2, o1, z]
  · have t := v155n h A r (p := p) hM hL c (up g 9 0)
    simp only [c197, x197_0, x197_1, x197_2, x197_5, x197_6, x197_7, x197_10, x197_13, x197_14, x197_15, x197_18, x197_21, x197_22, x197_23, x197_24, x197_27, x197_35, x197_30, x197_31, x197_32, gk_some, pk_some, qk_some, bnd_v, bnd_n, kl_int, kl_ref, kl_null, kl_un, Nat.reduceAdd, if_true, if_false, gm0, gm1, gm2, gm3, gm4, gm5, gm6, gm7, gm8, gm9, gm10, gm11, gm12, gm13, gm14, gm15, gm16, gm17, gm18, gm19, gm20, gm21, gm22, rvM, rvM, w, t, z]
theorem u198 {v u x : Int32} {H' : HS} (e : rcal 197 [.ref p, .int v, .int u] (mput h p g A, r) = some (.inl (some (.int x)), H')) : rcal 198 [.ref p, .int v, .int u] (mput h p g A, r) = some (.inl (some (.int x)), H') := by
  simp only [c198, x198_0, x198_1, x198_2, x198_3, x198_6, gk_some, pk_some, qk_some, bnd_v, bnd_n, kl_int, kl_ref, kl_null, kl_un, Nat.reduceAdd, if_true, if_false, rvM, e]
theorem u200 (hp : 32 ≤ p) (hM : MRL (A 1) L) (v : Int32) : rcal 200 [.ref p, .int v] (mput h p g A, r) = some (.inl (some (.int (b2i (L.2.2.2.2.find? (fndP v)).isSome))), (mput h p (up g 9 0) A, r)) := by
  have w := pm9 h g A r hp 0
  cases hf : L.2.2.2.2.find? (fndP v) with
  | none =>
    have b := v157n h A r (p := p) hM hf (up g 9 0)
    simp only [c200, x200_0, x200_1, x200_2, x200_5, x200_6, x200_7, x200_10, x200_11, x200_14, x200_15, x200_19, x200_18, gk_some, pk_some, qk_some, bnd_v, bnd_n, kl_int, kl_ref, kl_null, kl_un, Nat.reduceAdd, if_true, if_false, gm0, gm1, gm2, gm3, gm4, gm5, gm6, gm7, gm8, gm9, gm10, gm11, gm12, gm13, gm14, gm15, gm16, gm17, gm18, gm19, gm20, gm21, gm22, rvM, rvM, w, b, Option.isSome_none, b2i_f, fit0]
  | some s =>
    obtain ⟨D, R, hP, hD, b⟩ := v157 h A r (p := p) hM hf (up g 9 0)
    simp only [c200, x200_0, x200_1, x200_2, x200_5, x200_6, x200_7, x200_10, x200_11, x200_14, x200_15, x200_19, x200_18, gk_some, pk_some, qk_some, bnd_v, bnd_n, kl_int, kl_ref, kl_null, kl_un, Nat.reduceAdd, if_true, if_false, gm0, gm1, gm2, gm3, gm4, gm5, gm6, gm7, gm8, gm9, gm10, gm11, gm12, gm13, gm14, gm15, gm16, gm17, gm18, gm19, gm20, gm21, gm22, rvM, rvM, w, b, idx_n9 hD, Option.isSome_some, b2i_t, fit1]
theorem u201n (hp : 32 ≤ p) (hM : MRL (A 1) L) {v : Int32} (hf : L.2.2.2.2.find? (fndP v) = none) (x : Int32) : rcal 201 [.ref p, .int v, .int x] (mput h p g A, r) = some (.inl (some (.int (-1))), (mput h p (up g 9 1) A, r)) := by
  have w := pm9 h g A r hp 0
  have b := v157n h A r (p := p) hM hf (up g 9 0)
  have z := m150z h g A r hp 1
  simp only [c201, x201_0, x201_1, x201_2, x201_5, x201_6, x201_7, x201_10, x201_11, x201_14, x201_15, x201_16, x201_19, x201_37, x201_22, x201_23, x201_26, x201_27, x201_28, x201_31, x201_34, x201_35, x201_36, gk_some, pk_some, qk_some, bnd_v, bnd_n, kl_int, kl_ref, kl_null, kl_un, Nat.reduceAdd, if_true, if_false, gm0, gm1, gm2, gm3, gm4, gm5, gm6, gm7, gm8, gm9, gm10, gm11, gm12, gm13, gm14, gm15, gm16, gm17, gm18, gm19, gm20, gm21, gm22, rvM, rvM, w, b, z]
theorem u201 (hp : 32 ≤ p) (hM : MRL (A 1) L) {v : Int32} {s : SL} (hf : L.2.2.2.2.find? (fndP v) = some s) {k : Nat} (hk : k < 9) : rcal 201 [.ref p, .int v, .int (I k)] (mput h p g A, r) = some (.inl (some (.int (mt s.2 k))), (mput h p (up g 9 0) A, r)) := by
  have w := pm9 h g A r hp 0
  obtain ⟨D, R, hP, hD, b⟩ := v157 h A r (p := p) hM hf (up g 9 0)
  have rd := mrd h (up g 9 0) A r (p := p) hM.2.1 hP k hk
  have e : I (22 + 9 * D.length) + I k = I (22 + 9 * D.length + k) := I_add _ _
  simp only [c201, x201_0, x201_1, x201_2, x201_5, x201_6, x201_7, x201_10, x201_11, x201_14, x201_15, x201_16, x201_19, x201_37, x201_22, x201_23, x201_26, x201_27, x201_28, x201_31, x201_34, x201_35, x201_36, gk_some, pk_some, qk_some, bnd_v, bnd_n, kl_int, kl_ref, kl_null, kl_un, Nat.reduceAdd, if_true, if_false, gm0, gm1, gm2, gm3, gm4, gm5, gm6, gm7, gm8, gm9, gm10, gm11, gm12, gm13, gm14, gm15, gm16, gm17, gm18, gm19, gm20, gm21, gm22, rvM, rvM, w, b, idx_n9 hD, m154, e, rd]
theorem present {L : LN} {v : Int32} {s : SL} (hL : FL X N L) (hf : L.2.2.2.2.find? (fndP v) = some s) : s ∈ prs L.2.2.2.2 ∧ s.2.1 ≠ 1 ∧ s.2.2 1 = v ∧ (1 ≤ s.2.1 ∧ s.2.1 ≤ 4) ∧ (s.2.2 9 = 0 ∨ s.2.2 9 = 1) := by
  obtain ⟨n, G, -⟩ := hL
  have w := G.1
  obtain ⟨k1, k2, k3, k4⟩ := find_has w.2.1 hf
  have h1 := fnd_pr v s k4
  have hn : s.2.2 1 = v := by unfold fndP at k4; simp only [Bool.and_eq_true, decide_eq_true_eq] at k4; exact k4.2
  refine ⟨by unfold prs; rw [List.mem_filter]; exact ⟨k3, by simp [h1]⟩, h1, hn, w.2.2.1 s k3, ?_⟩
  have z := w.2.2.2.2 s k3
  unfold fitp at z
  simp only [Bool.or_eq_true, beq_iff_eq] at z
  exact z
theorem u202n (hp : 32 ≤ p) (hM : MRL (A 1) L) {v : Int32} (hf : L.2.2.2.2.find? (fndP v) = none) : rcal 202 [.ref p, .int v] (mput h p g A, r) = some (.inl (some (.int 0)), (mput h p (up g 9 1) A, r)) := by
  have t := u201n h g A r hp hM hf 4
  have o : ¬ (-1 : Int32) = 0 := by decide
  simp only [c202, x202_0, x202_1, x202_2, x202_3, x202_6, x202_9, x202_10, x202_14, x202_13, gk_some, pk_some, qk_some, bnd_v, bnd_n, kl_int, kl_ref, kl_null, kl_un, Nat.reduceAdd, if_true, if_false, rvM, t, o, fit0]
theorem u202 (hp : 32 ≤ p) (hM : MRL (A 1) L) (hL : FL X N L) {v : Int32} {s : SL} (hf : L.2.2.2.2.find? (fndP v) = some s) : rcal 202 [.ref p, .int v] (mput h p g A, r) = some (.inl (some (.int (b2i (decide (s.2.1 = 2))))), (mput h p (up g 9 0) A, r)) := by
  have t := u201 h g A r hp hM hf (k := 4) (by decide)
  rw [show I 4 = 4 from rfl] at t
  obtain ⟨p1, p2, p3, p4, p5⟩ := present hL hf
  by_cases c : s.2.1 = 2
  · have o : whr s.2 = 0 := by rw [whr_0, c]; decide
    simp only [c202, x202_0, x202_1, x202_2, x202_3, x202_6, x202_9, x202_10, x202_14, x202_13, gk_some, pk_some, qk_some, bnd_v, bnd_n, kl_int, kl_ref, kl_null, kl_un, Nat.reduceAdd, if_true, if_false, rvM, t, mt, o, c, decide_true, b2i_t, fit1]
  · have o : ¬ whr s.2 = 0 := by rw [whr_0]; omega
    simp only [c202, x202_0, x202_1, x202_2, x202_3, x202_6, x202_9, x202_10, x202_14, x202_13, gk_some, pk_some, qk_some, bnd_v, bnd_n, kl_int, kl_ref, kl_null, kl_un, Nat.reduceAdd, if_true, if_false, rvM, t, mt, o, c, decide_false, b2i_f, fit0]
theorem u203n (hp : 32 ≤ p) (hM : MRL (A 1) L) {v : Int32} (hf : L.2.2.2.2.find? (fndP v) = none) : rcal 203 [.ref p, .int v] (mput h p g A, r) = some (.inl (some (.int 0)), (mput h p (up g 9 1) A, r)) := by
  have t := u201n h g A r hp hM hf 7
  have o : ¬ (-1 : Int32) = 1 := by decide
  simp only [c203, x203_0, x203_1, x203_2, x203_4, x203_7, x203_8, x203_11, x203_12, x203_16, x203_15, gk_some, pk_some, qk_some, bnd_v, bnd_n, kl_int, kl_ref, kl_null, kl_un, Nat.reduceAdd, if_true, if_false, rvM, t, o, fit0]
theorem u203 (hp : 32 ≤ p) (hM : MRL (A 1) L) (hL : FL X N L) {v : Int32} {s : SL} (hf : L.2.2.2.2.find? (fndP v) = some s) : rcal 203 [.ref p, .int v] (mput h p g A, r) = some (.inl (some (.int (s.2.2 9))), (mput h p (up g 9 0) A, r)) := by
  have t := u201 h g A r hp hM hf (k := 7) (by decide)
  rw [show I 7 = 7 from rfl] at t
  obtain ⟨p1, p2, p3, p4, p5⟩ := present hL hf
  have o : ¬ (0 : Int32) = 1 := by decide
  obtain c | c := p5
  · simp only [c203, x203_0, x203_1, x203_2, x203_4, x203_7, x203_8, x203_11, x203_12, x203_16, x203_15, gk_some, pk_some, qk_some, bnd_v, bnd_n, kl_int, kl_ref, kl_null, kl_un, Nat.reduceAdd, if_true, if_false, rvM, t, mt, c, o, fit0]
  · simp only [c203, x203_0, x203_1, x203_2, x203_4, x203_7, x203_8, x203_11, x203_12, x203_16, x203_15, gk_some, pk_some, qk_some, bnd_v, bnd_n, kl_int, kl_ref, kl_null, kl_un, Nat.reduceAdd, if_true, if_false, rvM, t, mt, c, fit1]
theorem u204n (hp : 32 ≤ p) (hM : MRL (A 1) L) {v : Int32} (hf : L.2.2.2.2.find? (fndP v) = none) (x y : Int32) : rcal 204 [.ref p, .int v, .int x, .int y] (mput h p g A, r) = some (.inl (some (.int (-1))), (mput h p (up g 9 1) A, r)) := by
  have t := u201n h g A r hp hM hf 4
  have o : (0 : Int32) < 1 := by decide
  simp only [c204, x204_0, x204_1, x204_2, x204_3, x204_6, x204_8, x204_9, x204_12, x204_15, x204_16, x204_17, x204_19, x204_20, x204_23, x204_24, x204_27, x204_28, x204_29, x204_32, x204_35, x204_36, x204_37, x204_38, x204_46, x204_41, x204_42, x204_43, gk_some, pk_some, qk_some, bnd_v, bnd_n, kl_int, kl_ref, kl_null, kl_un, Nat.reduceAdd, if_true, if_false, gm0, gm1, gm2, gm3, gm4, gm5, gm6, gm7, gm8, gm9, gm10, gm11, gm12, gm13, gm14, gm15, gm16, gm17, gm18, gm19, gm20, gm21, gm22, rvM, rvM, t, up_eq, o]
theorem u204f (hp : 32 ≤ p) (hM : MRL (A 1) L) {v : Int32} {s : SL} (hf : L.2.2.2.2.find? (fndP v) = some s) {x : Int32} (hx : ¬ whr s.2 = x) (y : Int32) : rcal 204 [.ref p, .int v, .int x, .int y] (mput h p g A, r) = some (.inl (some (.int (-1))), (mput h p (up g 9 2) A, r)) := by
  have t := u201 h g A r hp hM hf (k := 4) (by decide)
  rw [show I 4 = 4 from rfl] at t
  have o : ¬ (0 : Int32) < 0 := by decide
  have z := m150z h g A r hp 2
  simp only [c204, x204_0, x204_1, x204_2, x204_3, x204_6, x204_8, x204_9, x204_12, x204_15, x204_16, x204_17, x204_19, x204_20, x204_23, x204_24, x204_27, x204_28, x204_29, x204_32, x204_35, x204_36, x204_37, x204_38, x204_46, x204_41, x204_42, x204_43, gk_some, pk_some, qk_some, bnd_v, bnd_n, kl_int, kl_ref, kl_null, kl_un, Nat.reduceAdd, if_true, if_false, gm0, gm1, gm2, gm3, gm4, gm5, gm6, gm7, gm8, gm9, gm10, gm11, gm12, gm13, gm14, gm15, gm16, gm17, gm18, gm19, gm20, gm21, gm22, rvM, rvM, t, up_eq, o, mt, hx, z]
theorem u204 (hp : 32 ≤ p) (hM : MRL (A 1) L) {v : Int32} {s : SL} (hf : L.2.2.2.2.find? (fndP v) = some s) {k : Nat} (hk : k < 9) : rcal 204 [.ref p, .int v, .int (whr s.2), .int (I k)] (mput h p g A, r) = some (.inl (some (.int (mt s.2 k))), (mput h p (up g 9 0) A, r)) := by
  have t := u201 h g A r hp hM hf (k := 4) (by decide)
  rw [show I 4 = 4 from rfl] at t
  have o : ¬ (0 : Int32) < 0 := by decide
  obtain ⟨D, R, hP, hD, b⟩ := v157 h A r (p := p) hM hf (up g 9 0)
  have rd := mrd h (up g 9 0) A r (p := p) hM.2.1 hP k hk
  have e : I (22 + 9 * D.length) + I k = I (22 + 9 * D.length + k) := I_add _ _
  simp only [c204, x204_0, x204_1, x204_2, x204_3, x204_6, x204_8, x204_9, x204_12, x204_15, x204_16, x204_17, x204_19, x204_20, x204_23, x204_24, x204_27, x204_28, x204_29, x204_32, x204_35, x204_36, x204_37, x204_38, x204_46, x204_41, x204_42, x204_43, gk_some, pk_some, qk_some, bnd_v, bnd_n, kl_int, kl_ref, kl_null, kl_un, Nat.reduceAdd, if_true, if_false, gm0, gm1, gm2, gm3, gm4, gm5, gm6, gm7, gm8, gm9, gm10, gm11, gm12, gm13, gm14, gm15, gm16, gm17, gm18, gm19, gm20, gm21, gm22, rvM, rvM, t, up_eq, o, show mt s.2 4 = whr s.2 from rfl, b, m154, e, rd]
theorem u20Xn (hp : 32 ≤ p) (hM : MRL (A 1) L) {v : Int32} (hf : L.2.2.2.2.find? (fndP v) = none) : rcal 205 [.ref p, .int v] (mput h p g A, r) = some (.inl (some (.int (-1))), (mput h p (up g 9 1) A, r)) ∧ rcal 206 [.ref p, .int v] (mput h p g A, r) = some (.inl (some (.int (-1))), (mput h p (up g 9 1) A, r)) ∧ rcal 207 [.ref p, .int v] (mput h p g A, r) = some (.inl (some (.int (-1))), (mput h p (up g 9 1) A, r)) ∧ rcal 208 [.ref p, .int v] (mput h p g A, r) = some (.inl (some (.int (-1))), (mput h p (up g 9 1) A, r)) := by
  have t5 := u204n h g A r hp hM hf 1 5
  have t6 := u204n h g A r hp hM hf 2 5
  have t7 := u204n h g A r hp hM hf 2 6
  have t8 := u201n h g A r hp hM hf 8
  refine ⟨?_, ?_, ?_, ?_⟩
  · simp only [c205, x205_0, x205_1, x205_2, x205_3, x205_4, x205_7, gk_some, pk_some, qk_some, bnd_v, bnd_n, kl_int, kl_ref, kl_null, kl_un, Nat.reduceAdd, if_true, if_false, rvM, t5]
  · simp only [c206, x206_0, x206_1, x206_2, x206_3, x206_4, x206_7, gk_some, pk_some, qk_some, bnd_v, bnd_n, kl_int, kl_ref, kl_null, kl_un, Nat.reduceAdd, if_true, if_false, rvM, t6]
  · simp only [c207, x207_0, x207_1, x207_2, x207_3, x207_5, x207_8, gk_some, pk_some, qk_some, bnd_v, bnd_n, kl_int, kl_ref, kl_null, kl_un, Nat.reduceAdd, if_true, if_false, rvM, t7]
  · simp only [c208, x208_0, x208_1, x208_2, x208_4, x208_7, gk_some, pk_some, qk_some, bnd_v, bnd_n, kl_int, kl_ref, kl_null, kl_un, Nat.reduceAdd, if_true, if_false, rvM, t8]
theorem u205 (hp : 32 ≤ p) (hM : MRL (A 1) L) {v : Int32} {s : SL} (hf : L.2.2.2.2.find? (fndP v) = some s) (c : s.2.1 = 3) : rcal 205 [.ref p, .int v] (mput h p g A, r) = some (.inl (some (.int (s.2.2 6))), (mput h p (up g 9 0) A, r)) := by
  have t := u204 h g A r hp hM hf (k := 5) (by decide)
  have e : whr s.2 = 1 := by rw [whr_1]; exact c
  have e2 : mt s.2 5 = s.2.2 6 := by simp [mt, plc, c]
  rw [show I 5 = 5 from rfl, e, e2] at t
  simp only [c205, x205_0, x205_1, x205_2, x205_3, x205_4, x205_7, gk_some, pk_some, qk_some, bnd_v, bnd_n, kl_int, kl_ref, kl_null, kl_un, Nat.reduceAdd, if_true, if_false, rvM, t]
theorem u205f (hp : 32 ≤ p) (hM : MRL (A 1) L) {v : Int32} {s : SL} (hf : L.2.2.2.2.find? (fndP v) = some s) (c : ¬ s.2.1 = 3) : rcal 205 [.ref p, .int v] (mput h p g A, r) = some (.inl (some (.int (-1))), (mput h p (up g 9 2) A, r)) := by
  have t := u204f h g A r hp hM hf (x := 1) (by rw [whr_1]; exact c) 5
  simp only [c205, x205_0, x205_1, x205_2, x205_3, x205_4, x205_7, gk_some, pk_some, qk_some, bnd_v, bnd_n, kl_int, kl_ref, kl_null, kl_un, Nat.reduceAdd, if_true, if_false, rvM, t]
theorem u206 (hp : 32 ≤ p) (hM : MRL (A 1) L) {v : Int32} {s : SL} (hf : L.2.2.2.2.find? (fndP v) = some s) (c : s.2.1 = 4) : rcal 206 [.ref p, .int v] (mput h p g A, r) = some (.inl (some (.int (s.2.2 7))), (mput h p (up g 9 0) A, r)) := by
  have t := u204 h g A r hp hM hf (k := 5) (by decide)
  have e : whr s.2 = 2 := by rw [whr_2]; exact c
  have e2 : mt s.2 5 = s.2.2 7 := by simp [mt, plc, c]
  rw [show I 5 = 5 from rfl, e, e2] at t
  simp only [c206, x206_0, x206_1, x206_2, x206_3, x206_4, x206_7, gk_some, pk_some, qk_some, bnd_v, bnd_n, kl_int, kl_ref, kl_null, kl_un, Nat.reduceAdd, if_true, if_false, rvM, t]
theorem u206f (hp : 32 ≤ p) (hM : MRL (A 1) L) {v : Int32} {s : SL} (hf : L.2.2.2.2.find? (fndP v) = some s) (c : ¬ s.2.1 = 4) : rcal 206 [.ref p, .int v] (mput h p g A, r) = some (.inl (some (.int (-1))), (mput h p (up g 9 2) A, r)) := by
  have t := u204f h g A r hp hM hf (x := 2) (by rw [whr_2]; exact c) 5
  simp only [c206, x206_0, x206_1, x206_2, x206_3, x206_4, x206_7, gk_some, pk_some, qk_some, bnd_v, bnd_n, kl_int, kl_ref, kl_null, kl_un, Nat.reduceAdd, if_true, if_false, rvM, t]
theorem u207 (hp : 32 ≤ p) (hM : MRL (A 1) L) {v : Int32} {s : SL} (hf : L.2.2.2.2.find? (fndP v) = some s) (c : s.2.1 = 4) : rcal 207 [.ref p, .int v] (mput h p g A, r) = some (.inl (some (.int (s.2.2 8))), (mput h p (up g 9 0) A, r)) := by
  have t := u204 h g A r hp hM hf (k := 6) (by decide)
  have e : whr s.2 = 2 := by rw [whr_2]; exact c
  have e2 : mt s.2 6 = s.2.2 8 := by simp [mt, lft, c]
  rw [show I 6 = 6 from rfl, e, e2] at t
  simp only [c207, x207_0, x207_1, x207_2, x207_3, x207_5, x207_8, gk_some, pk_some, qk_some, bnd_v, bnd_n, kl_int, kl_ref, kl_null, kl_un, Nat.reduceAdd, if_true, if_false, rvM, t]
theorem u207f (hp : 32 ≤ p) (hM : MRL (A 1) L) {v : Int32} {s : SL} (hf : L.2.2.2.2.find? (fndP v) = some s) (c : ¬ s.2.1 = 4) : rcal 207 [.ref p, .int v] (mput h p g A, r) = some (.inl (some (.int (-1))), (mput h p (up g 9 2) A, r)) := by
  have t := u204f h g A r hp hM hf (x := 2) (by rw [whr_2]; exact c) 6
  simp only [c207, x207_0, x207_1, x207_2, x207_3, x207_5, x207_8, gk_some, pk_some, qk_some, bnd_v, bnd_n, kl_int, kl_ref, kl_null, kl_un, Nat.reduceAdd, if_true, if_false, rvM, t]
theorem u208 (hp : 32 ≤ p) (hM : MRL (A 1) L) {v : Int32} {s : SL} (hf : L.2.2.2.2.find? (fndP v) = some s) : rcal 208 [.ref p, .int v] (mput h p g A, r) = some (.inl (some (.int (s.2.2 10))), (mput h p (up g 9 0) A, r)) := by
  have t := u201 h g A r hp hM hf (k := 8) (by decide)
  rw [show I 8 = 8 from rfl] at t
  simp only [c208, x208_0, x208_1, x208_2, x208_4, x208_7, gk_some, pk_some, qk_some, bnd_v, bnd_n, kl_int, kl_ref, kl_null, kl_un, Nat.reduceAdd, if_true, if_false, rvM, t, mt]
theorem endK_of {n : Nat} {T X l : Int} {Nn : Int} {rt : Nat → Int32} {t : TR} (h7 : n ≤ 7) (k : TI n T X l Nn rt t) : endK t := by
  obtain ⟨a1, a2, -⟩ := k
  have h2 : ¬ t.2 2 < 0 := by rw [Z_lt, Z_0]; omega
  have h3 : ¬ t.2 3 < 0 := by rw [Z_lt, Z_0]; omega
  have z2 := Z_nat (x := t.2 2) (by omega)
  have z3 := Z_nat (x := t.2 3) (by omega)
  exact ⟨⟨h2, by omega⟩, h3, by omega⟩
theorem v165 (hM : MRL (A 1) L) (hL : FL X N L) {D R : List SL} {s : SL} (hP : prs L.2.2.2.2 = D ++ s :: R) (g : Nat → Int32) : rcal 165 [.ref p, .int (I D.length)] (mput h p g A, r) = some (.inl (some (.int (s.2.2 5))), (mput h p g A, r)) := by
  obtain ⟨n, G, -⟩ := hL
  have h7 : n ≤ 7 := G.2.1.2
  have k := G.2.2.2.2.2.1 s (by show s ∈ prs L.2.2.2.2; rw [hP]; simp)
  have ek := endK_of h7 k
  have t := m165 h g A r (p := p) hM.2.1 hP ek
  unfold plnM at t
  rw [betw_congr (g' := L.2.2.1) ek.1.2 ek.2.2 (fun i hi => hM.1.2.2.2.2.2.2.2.2.2 i hi)] at t
  rw [← k.2.2.2.1] at t
  exact t
theorem u209n (hp : 32 ≤ p) (hM : MRL (A 1) L) {v : Int32} (hf : L.2.2.2.2.find? (fndP v) = none) : rcal 209 [.ref p, .int v] (mput h p g A, r) = some (.inl (some (.int (-1))), (mput h p (up g 9 1) A, r)) := by
  have w := pm9 h g A r hp 0
  have b := v157n h A r (p := p) hM hf (up g 9 0)
  have z := m150z h g A r hp 1
  simp only [c209, x209_0, x209_1, x209_2, x209_5, x209_6, x209_7, x209_10, x209_11, x209_14, x209_15, x209_16, x209_19, x209_31, x209_22, x209_23, x209_24, x209_25, x209_28, gk_some, pk_some, qk_some, bnd_v, bnd_n, kl_int, kl_ref, kl_null, kl_un, Nat.reduceAdd, if_true, if_false, gm0, gm1, gm2, gm3, gm4, gm5, gm6, gm7, gm8, gm9, gm10, gm11, gm12, gm13, gm14, gm15, gm16, gm17, gm18, gm19, gm20, gm21, gm22, rvM, rvM, w, b, z]
theorem u209 (hp : 32 ≤ p) (hM : MRL (A 1) L) (hL : FL X N L) {v : Int32} {s : SL} (hf : L.2.2.2.2.find? (fndP v) = some s) : rcal 209 [.ref p, .int v] (mput h p g A, r) = some (.inl (some (.int (s.2.2 5))), (mput h p (up g 9 0) A, r)) := by
  have w := pm9 h g A r hp 0
  obtain ⟨D, R, hP, hD, b⟩ := v157 h A r (p := p) hM hf (up g 9 0)
  have t := v165 h A r (p := p) hM hL hP (up g 9 0)
  simp only [c209, x209_0, x209_1, x209_2, x209_5, x209_6, x209_7, x209_10, x209_11, x209_14, x209_15, x209_16, x209_19, x209_31, x209_22, x209_23, x209_24, x209_25, x209_28, gk_some, pk_some, qk_some, bnd_v, bnd_n, kl_int, kl_ref, kl_null, kl_un, Nat.reduceAdd, if_true, if_false, gm0, gm1, gm2, gm3, gm4, gm5, gm6, gm7, gm8, gm9, gm10, gm11, gm12, gm13, gm14, gm15, gm16, gm17, gm18, gm19, gm20, gm21, gm22, rvM, rvM, w, b, idx_n9 hD, t]
theorem u210n (hp : 32 ≤ p) (hM : MRL (A 1) L) {v : Int32} (hf : L.2.2.2.2.find? (fndP v) = none) : rcal 210 [.ref p, .int v] (mput h p g A, r) = some (.inl (some (.int (-1))), (mput h p (up g 9 1) A, r)) := by
  have w := pm9 h g A r hp 0
  have b := v157n h A r (p := p) hM hf (up g 9 0)
  have z := m150z h g A r hp 1
  simp only [c210, x210_0, x210_1, x210_2, x210_5, x210_6, x210_7, x210_10, x210_11, x210_12, x210_13, x210_16, x210_17, x210_18, x210_21, x210_22, x210_23, x210_26, x210_27, x210_30, x210_31, x210_32, x210_33, x210_36, x210_37, x210_40, x210_41, x210_44, x210_45, x210_46, x210_47, x210_48, x210_51, x210_52, x210_53, x210_56, x210_57, x210_58, x210_61, x210_62, x210_63, x210_64, x210_67, gk_some, pk_some, qk_some, bnd_v, bnd_n, kl_int, kl_ref, kl_null, kl_un, Nat.reduceAdd, if_true, if_false, gm0, gm1, gm2, gm3, gm4, gm5, gm6, gm7, gm8, gm9, gm10, gm11, gm12, gm13, gm14, gm15, gm16, gm17, gm18, gm19, gm20, gm21, gm22, rvM, rvM, w, b, z]
theorem u210 (hp : 32 ≤ p) (hM : MRL (A 1) L) (hL : FL X N L) {v : Int32} {s : SL} (hf : L.2.2.2.2.find? (fndP v) = some s) (c : s.2.1 = 2 ∧ L.1 7 < s.2.2 4) : rcal 210 [.ref p, .int v] (mput h p g A, r) = some (.inl (some (.int (s.2.2 5))), (mput h p (up g 9 0) A, r)) := by
  have w := pm9 h g A r hp 0
  obtain ⟨D, R, hP, hD, b⟩ := v157 h A r (p := p) hM hf (up g 9 0)
  have t := v165 h A r (p := p) hM hL hP (up g 9 0)
  have r4 := mrd h (up g 9 0) A r (p := p) hM.2.1 hP 4 (by decide)
  have r3 := mrd h (up g 9 0) A r (p := p) hM.2.1 hP 3 (by decide)
  have o : whr s.2 = 0 := by rw [whr_0, c.1]; decide
  simp only [mt, o] at r4
  simp only [mt] at r3
  have a3 := hM.1.2.2.1
  simp only [c210, x210_0, x210_1, x210_2, x210_5, x210_6, x210_7, x210_10, x210_11, x210_12, x210_13, x210_16, x210_17, x210_18, x210_21, x210_22, x210_23, x210_26, x210_27, x210_30, x210_31, x210_32, x210_33, x210_36, x210_37, x210_40, x210_41, x210_44, x210_45, x210_46, x210_47, x210_48, x210_51, x210_52, x210_53, x210_56, x210_57, x210_58, x210_61, x210_62, x210_63, x210_64, x210_67, gk_some, pk_some, qk_some, bnd_v, bnd_n, kl_int, kl_ref, kl_null, kl_un, Nat.reduceAdd, if_true, if_false, gm0, gm1, gm2, gm3, gm4, gm5, gm6, gm7, gm8, gm9, gm10, gm11, gm12, gm13, gm14, gm15, gm16, gm17, gm18, gm19, gm20, gm21, gm22, rvM, rl0, rl1, rl2, rl3, rl4, rl5, rl6, rl7, rl8, I_1, Ia2, Ia3, Ia4, Ia5, Ia6, Ia7, Ia8, Ia9, Ia10, Ia11, Ia12, Il9, Il16, Il22, Il76, Im9, rvM, w, b, idx_n9 hD, m154, r4, r3, a3, c.2, t]
theorem u210f (hp : 32 ≤ p) (hM : MRL (A 1) L) (hL : FL X N L) {v : Int32} {s : SL} (hf : L.2.2.2.2.find? (fndP v) = some s) (c : ¬ (s.2.1 = 2 ∧ L.1 7 < s.2.2 4)) : rcal 210 [.ref p, .int v] (mput h p g A, r) = some (.inl (some (.int (-1))), (mput h p (up g 9 2) A, r)) := by
  have w := pm9 h g A r hp 0
  obtain ⟨D, R, hP, hD, b⟩ := v157 h A r (p := p) hM hf (up g 9 0)
  obtain ⟨p1, p2, p3, p4, p5⟩ := present hL hf
  have z := m150z h g A r hp 2
  have r4 := mrd h (up g 9 0) A r (p := p) hM.2.1 hP 4 (by decide)
  have r3 := mrd h (up g 9 0) A r (p := p) hM.2.1 hP 3 (by decide)
  simp only [mt] at r4 r3
  have a3 := hM.1.2.2.1
  by_cases c1 : s.2.1 = 2
  · have o : whr s.2 = 0 := by rw [whr_0, c1]; decide
    have c2 : ¬ L.1 7 < s.2.2 4 := fun q => c ⟨c1, q⟩
    simp only [c210, x210_0, x210_1, x210_2, x210_5, x210_6, x210_7, x210_10, x210_11, x210_12, x210_13, x210_16, x210_17, x210_18, x210_21, x210_22, x210_23, x210_26, x210_27, x210_30, x210_31, x210_32, x210_33, x210_36, x210_37, x210_40, x210_41, x210_44, x210_45, x210_46, x210_47, x210_48, x210_51, x210_52, x210_53, x210_56, x210_57, x210_58, x210_61, x210_62, x210_63, x210_64, x210_67, gk_some, pk_some, qk_some, bnd_v, bnd_n, kl_int, kl_ref, kl_null, kl_un, Nat.reduceAdd, if_true, if_false, gm0, gm1, gm2, gm3, gm4, gm5, gm6, gm7, gm8, gm9, gm10, gm11, gm12, gm13, gm14, gm15, gm16, gm17, gm18, gm19, gm20, gm21, gm22, rvM, rl0, rl1, rl2, rl3, rl4, rl5, rl6, rl7, rl8, I_1, Ia2, Ia3, Ia4, Ia5, Ia6, Ia7, Ia8, Ia9, Ia10, Ia11, Ia12, Il9, Il16, Il22, Il76, Im9, rvM, w, b, idx_n9 hD, m154, r4, o, r3, a3, c2, z]
  · have o : ¬ whr s.2 = 0 := by rw [whr_0]; omega
    simp only [c210, x210_0, x210_1, x210_2, x210_5, x210_6, x210_7, x210_10, x210_11, x210_12, x210_13, x210_16, x210_17, x210_18, x210_21, x210_22, x210_23, x210_26, x210_27, x210_30, x210_31, x210_32, x210_33, x210_36, x210_37, x210_40, x210_41, x210_44, x210_45, x210_46, x210_47, x210_48, x210_51, x210_52, x210_53, x210_56, x210_57, x210_58, x210_61, x210_62, x210_63, x210_64, x210_67, gk_some, pk_some, qk_some, bnd_v, bnd_n, kl_int, kl_ref, kl_null, kl_un, Nat.reduceAdd, if_true, if_false, gm0, gm1, gm2, gm3, gm4, gm5, gm6, gm7, gm8, gm9, gm10, gm11, gm12, gm13, gm14, gm15, gm16, gm17, gm18, gm19, gm20, gm21, gm22, rvM, rl0, rl1, rl2, rl3, rl4, rl5, rl6, rl7, rl8, I_1, Ia2, Ia3, Ia4, Ia5, Ia6, Ia7, Ia8, Ia9, Ia10, Ia11, Ia12, Il9, Il16, Il22, Il76, Im9, rvM, w, b, idx_n9 hD, m154, r4, o, z]
theorem u218 (hp : 32 ≤ p) (hM : MRL (A 1) L) (hf : 0 < L.1 8) : rcal 218 [.ref p] (mput h p g A, r) = some (.inl (some (.int (L.1 9))), (mput h p (up g 9 0) A, r)) := by
  have w := pm9 h g A r hp 0
  have a4 := hM.1.2.2.2.1
  have a5 := hM.1.2.2.2.2.1
  have o : ¬ L.1 8 = 0 := fun z => by rw [z] at hf; exact absurd hf (by decide)
  simp only [c218, x218_0, x218_1, x218_2, x218_5, x218_6, x218_9, x218_10, x218_11, x218_14, x218_15, x218_16, x218_19, x218_28, x218_22, x218_23, x218_26, x218_27, gk_some, pk_some, qk_some, bnd_v, bnd_n, kl_int, kl_ref, kl_null, kl_un, Nat.reduceAdd, if_true, if_false, gm0, gm1, gm2, gm3, gm4, gm5, gm6, gm7, gm8, gm9, gm10, gm11, gm12, gm13, gm14, gm15, gm16, gm17, gm18, gm19, gm20, gm21, gm22, rvM, rl0, rl1, rl2, rl3, rl4, rl5, rl6, rl7, rl8, w, a4, a5, o]
theorem u218n (hp : 32 ≤ p) (hM : MRL (A 1) L) (hf : L.1 8 = 0) : rcal 218 [.ref p] (mput h p g A, r) = some (.inl (some (.int (-1))), (mput h p (up g 9 1) A, r)) := by
  have w := pm9 h g A r hp 0
  have a4 := hM.1.2.2.2.1
  have z := m150z h g A r hp 1
  simp only [c218, x218_0, x218_1, x218_2, x218_5, x218_6, x218_9, x218_10, x218_11, x218_14, x218_15, x218_16, x218_19, x218_28, x218_22, x218_23, x218_26, x218_27, gk_some, pk_some, qk_some, bnd_v, bnd_n, kl_int, kl_ref, kl_null, kl_un, Nat.reduceAdd, if_true, if_false, gm0, gm1, gm2, gm3, gm4, gm5, gm6, gm7, gm8, gm9, gm10, gm11, gm12, gm13, gm14, gm15, gm16, gm17, gm18, gm19, gm20, gm21, gm22, rvM, rl0, rl1, rl2, rl3, rl4, rl5, rl6, rl7, rl8, rvM, w, a4, hf, z]
theorem u220 (hp : 32 ≤ p) (hM : MRL (A 1) L) (hf : 0 < L.1 8) : rcal 220 [.ref p] (mput h p g A, r) = some (.inl (some (.int (L.1 11))), (mput h p (up g 9 0) A, r)) := by
  have w := pm9 h g A r hp 0
  have a4 := hM.1.2.2.2.1
  have a6 := hM.1.2.2.2.2.2.1
  have o : ¬ L.1 8 = 0 := fun z => by rw [z] at hf; exact absurd hf (by decide)
  simp only [c220, x220_0, x220_1, x220_2, x220_5, x220_6, x220_9, x220_10, x220_11, x220_14, x220_15, x220_16, x220_19, x220_29, x220_22, x220_23, x220_26, x220_28, gk_some, pk_some, qk_some, bnd_v, bnd_n, kl_int, kl_ref, kl_null, kl_un, Nat.reduceAdd, if_true, if_false, gm0, gm1, gm2, gm3, gm4, gm5, gm6, gm7, gm8, gm9, gm10, gm11, gm12, gm13, gm14, gm15, gm16, gm17, gm18, gm19, gm20, gm21, gm22, rvM, rl0, rl1, rl2, rl3, rl4, rl5, rl6, rl7, rl8, w, a4, a6, o]
theorem u220n (hp : 32 ≤ p) (hM : MRL (A 1) L) (hf : L.1 8 = 0) : rcal 220 [.ref p] (mput h p g A, r) = some (.inl (some (.int (-1))), (mput h p (up g 9 1) A, r)) := by
  have w := pm9 h g A r hp 0
  have a4 := hM.1.2.2.2.1
  have z := m150z h g A r hp 1
  simp only [c220, x220_0, x220_1, x220_2, x220_5, x220_6, x220_9, x220_10, x220_11, x220_14, x220_15, x220_16, x220_19, x220_29, x220_22, x220_23, x220_26, x220_28, gk_some, pk_some, qk_some, bnd_v, bnd_n, kl_int, kl_ref, kl_null, kl_un, Nat.reduceAdd, if_true, if_false, gm0, gm1, gm2, gm3, gm4, gm5, gm6, gm7, gm8, gm9, gm10, gm11, gm12, gm13, gm14, gm15, gm16, gm17, gm18, gm19, gm20, gm21, gm22, rvM, rl0, rl1, rl2, rl3, rl4, rl5, rl6, rl7, rl8, rvM, w, a4, hf, z]
theorem fin_0 (hL : FL X N L) (hf : ¬ 0 < L.1 8) : L.1 8 = 0 := by
  obtain ⟨n, G, -⟩ := hL
  have t := G.2.2.2.2.2.2.2.2.2.1
  simp only [] at t
  rw [Z_lt, Z_0] at hf
  refine Int32.toInt_inj.mp ?_
  show Z (L.1 8) = 0
  omega
theorem u223 (hp : 32 ≤ p) : rcal 223 [.ref p] (mput h p g A, r) = some (.inl (some (.int 1)), (mput h p (up g 9 0) A, r)) := by
  have w := pm9 h g A r hp 0
  simp only [c223, x223_0, x223_1, x223_2, x223_5, x223_6, gk_some, pk_some, qk_some, bnd_v, bnd_n, kl_int, kl_ref, kl_null, kl_un, Nat.reduceAdd, if_true, if_false, w, fit1]
end MQ
