/-! the reference: the error's place, the failed command, its output, a sign written -/
section MERR
variable (h : PH) {p : Nat} (g : Nat → Int32) (A : Nat → Nat → Int32) (r : Nat × Nat × Nat)
theorem m234n (hp : 32 ≤ p) (e : g 7 = -1) : rcal 234 [.ref p] (mput h p g A, r) = some (.inl (some (.int (-1))), (mput h p (up g 9 1) A, r)) := by
  have w := pm9 h g A r hp 0
  have e' : up g 9 0 7 = -1 := by rw [up_ne _ _ (by decide)]; exact e
  have t := m150 h (up g 9 0) r hp A 1
  rw [up_up] at t
  simp only [c234, x234_0, x234_1, x234_2, x234_5, x234_6, x234_9, x234_10, x234_13, x234_14, x234_15, x234_18, x234_25, x234_21, x234_22, gk_some, pk_some, qk_some, bnd_v, bnd_n, kl_int, kl_ref, kl_null, kl_un, Nat.reduceAdd, if_true, if_false, gm0, gm1, gm2, gm3, gm4, gm5, gm6, gm7, gm8, gm9, gm10, gm11, gm12, gm13, gm14, gm15, gm16, gm17, gm18, gm19, gm20, gm21, gm22, rvM, w, e', t]
theorem m234 (hp : 32 ≤ p) (e : ¬ g 7 = -1) : rcal 234 [.ref p] (mput h p g A, r) = some (.inl (some (.int (g 7))), (mput h p (up g 9 0) A, r)) := by
  have w := pm9 h g A r hp 0
  have e' : up g 9 0 7 = g 7 := up_ne _ _ (by decide)
  simp only [c234, x234_0, x234_1, x234_2, x234_5, x234_6, x234_9, x234_10, x234_13, x234_14, x234_15, x234_18, x234_25, x234_21, x234_22, gk_some, pk_some, qk_some, bnd_v, bnd_n, kl_int, kl_ref, kl_null, kl_un, Nat.reduceAdd, if_true, if_false, gm0, gm1, gm2, gm3, gm4, gm5, gm6, gm7, gm8, gm9, gm10, gm11, gm12, gm13, gm14, gm15, gm16, gm17, gm18, gm19, gm20, gm21, gm22, rvM, w, e', e]
theorem m235n (hp : 32 ≤ p) (e : g 8 = -1) : rcal 235 [.ref p] (mput h p g A, r) = some (.inl (some (.int (-1))), (mput h p (up g 9 1) A, r)) := by
  have w := pm9 h g A r hp 0
  have e' : up g 9 0 8 = -1 := by rw [up_ne _ _ (by decide)]; exact e
  have t := m150 h (up g 9 0) r hp A 1
  rw [up_up] at t
  simp only [c235, x235_0, x235_1, x235_2, x235_5, x235_6, x235_9, x235_10, x235_13, x235_14, x235_15, x235_18, x235_25, x235_21, x235_22, gk_some, pk_some, qk_some, bnd_v, bnd_n, kl_int, kl_ref, kl_null, kl_un, Nat.reduceAdd, if_true, if_false, gm0, gm1, gm2, gm3, gm4, gm5, gm6, gm7, gm8, gm9, gm10, gm11, gm12, gm13, gm14, gm15, gm16, gm17, gm18, gm19, gm20, gm21, gm22, rvM, w, e', t]
theorem m235 (hp : 32 ≤ p) (e : ¬ g 8 = -1) : rcal 235 [.ref p] (mput h p g A, r) = some (.inl (some (.int (g 8))), (mput h p (up g 9 0) A, r)) := by
  have w := pm9 h g A r hp 0
  have e' : up g 9 0 8 = g 8 := up_ne _ _ (by decide)
  simp only [c235, x235_0, x235_1, x235_2, x235_5, x235_6, x235_9, x235_10, x235_13, x235_14, x235_15, x235_18, x235_25, x235_21, x235_22, gk_some, pk_some, qk_some, bnd_v, bnd_n, kl_int, kl_ref, kl_null, kl_un, Nat.reduceAdd, if_true, if_false, gm0, gm1, gm2, gm3, gm4, gm5, gm6, gm7, gm8, gm9, gm10, gm11, gm12, gm13, gm14, gm15, gm16, gm17, gm18, gm19, gm20, gm21, gm22, rvM, w, e', e]
theorem m236 (hp : 32 ≤ p) {m : Nat} (hm : m < 120) (e : g 22 = I m) (v : Int32) : rcal 236 [.ref p, .int v] (mput h p g A, r) = some (.inl none, (mput h p (up g 22 (I (m + 1))) (ua A 11 (up (A 11) m v)), r)) := by
  have w : ast (mput h p g A, r) 100 (p + 11) (I m) (.int v) = some (mput h p g (ua A 11 (up (A 11) m v)), r) := by
    have z := wm11 h g A r hp (i := I m) (I_nn (by omega)) (by rw [I_nat (by omega)]; exact hm) v
    rw [I_nat (by omega)] at z
    exact z
  have w22 := pm22 h g (ua A 11 (up (A 11) m v)) r hp (I (m + 1))
  simp only [c236, x236_0, x236_1, x236_4, x236_5, x236_8, x236_9, x236_10, x236_11, x236_12, x236_15, x236_16, x236_17, x236_20, gk_some, pk_some, qk_some, bnd_v, bnd_n, kl_int, kl_ref, kl_null, kl_un, Nat.reduceAdd, if_true, if_false, gm0, gm1, gm2, gm3, gm4, gm5, gm6, gm7, gm8, gm9, gm10, gm11, gm12, gm13, gm14, gm15, gm16, gm17, gm18, gm19, gm20, gm21, gm22, rvM, e, w, I_1, w22]
end MERR
