/-! the reference: how far a form is like the text -/
def lets (k : Nat) : Int32 := fI letC k
def bgs : List Nat := [0, 8, 15, 21, 26, 29, 36, 41]
def bg (k : Nat) : Nat := bgs.getD k 0
theorem letC_eq : letC = (List.range 41).map fun k => Value.int (lets k) := rfl
theorem begC_eq : begC = (List.range 8).map fun k => Value.int (I (bg k)) := rfl
theorem bg_le : ∀ i, i < 7 → bg i ≤ bg (i + 1) ∧ bg (i + 1) ≤ 41 := by decide
/-- how many letters from the t-th on are like, at most d -/
def lkn (f : Nat → Int32) (n q b : Nat) : Nat → Nat → Nat
  | 0, t => t
  | d + 1, t => if q + t < n ∧ f (q + t) = lets (b + t) then lkn f n q b d (t + 1) else t
theorem lkn_le (f : Nat → Int32) (n q b : Nat) : ∀ d t, t ≤ lkn f n q b d t ∧ lkn f n q b d t ≤ t + d
  | 0, t => ⟨Nat.le_refl _, Nat.le_refl _⟩
  | d + 1, t => by
    unfold lkn
    split
    · have := lkn_le f n q b d (t + 1); omega
    · omega
section MLIKE
variable (h : PH) {p : Nat} (g : Nat → Int32) (A : Nat → Nat → Int32) (r : Nat × Nat × Nat)
theorem rd8 {k : Nat} (hk : k < 41) : ald (mput h p g A, r) 101 (p + 8) (I k) = some (.int (lets k)) := by
  unfold ald
  simp only [mput_8]
  rw [letC_eq]
  simp only [List.length_map, List.length_range]
  rw [if_pos ⟨trivial, fun q => q.elim (I_nn (by omega)) (fun q => by rw [I_nat (by omega)] at q; omega), by decide⟩, I_nat (by omega)]
  exact iA_get hk
theorem rd9 {k : Nat} (hk : k < 8) : ald (mput h p g A, r) 100 (p + 9) (I k) = some (.int (I (bg k))) := by
  unfold ald
  simp only [mput_9]
  rw [begC_eq]
  simp only [List.length_map, List.length_range]
  rw [if_pos ⟨trivial, fun q => q.elim (I_nn (by omega)) (fun q => by rw [I_nat (by omega)] at q; omega), by decide⟩, I_nat (by omega)]
  exact iA_get (g := fun k => I (bg k)) hk
theorem l229 {n q i : Nat} (hi : i < 7) (hn : n ≤ 60) (hq : q ≤ 60) (e18 : g 18 = I q) (e19 : g 19 = I n) : ∀ (d t : Nat), t + d = bg (i + 1) - bg i → rn 229 18 [.ref p, .int (I i), .int (I t), .int (I (bg (i + 1) - bg i))] [] (mput h p g A, r) = some (.inl (some (.int (I (lkn (A 6) n q (bg i) d t)))), (mput h p g A, r)) := by
  have hb := bg_le i hi
  intro d
  induction d with
  | zero =>
    intro t ht
    have a : ¬ I t < I (bg (i + 1) - bg i) := fun z => by have := (I_lt (by omega) (by omega)).mp z; omega
    simp only [x229_18, x229_19, x229_20, x229_69, x229_70, gk_some, pk_some, qk_some, bnd_v, bnd_n, kl_int, kl_ref, kl_null, kl_un, Nat.reduceAdd, if_true, if_false, a, lkn]
  | succ d ih =>
    intro t ht
    have a : I t < I (bg (i + 1) - bg i) := (I_lt (by omega) (by omega)).mpr (by omega)
    have sq : I q + I t = I (q + t) := I_add q t
    have r9 := rd9 h g A r (p := p) (k := i) (by omega)
    unfold lkn
    by_cases c : q + t < n
    · have a2 : I (q + t) < I n := (I_lt (by omega) (by omega)).mpr c
      have b := rn6 h g A r (p := p) (n := q + t) (by omega)
      have st : I (bg i) + I t = I (bg i + t) := I_add _ _
      have r8 := rd8 h g A r (p := p) (k := bg i + t) (by omega)
      have i2 := ih (t + 1) (by omega)
      by_cases c2 : A 6 (q + t) = lets (bg i + t)
      · rw [x229_18, x229_19, x229_20, if_pos a, if_pos ⟨c, c2⟩]
        simp only [x229_0, x229_1, x229_2, x229_3, x229_6, x229_7, x229_8, x229_9, x229_10, x229_11, x229_14, x229_15, x229_16, x229_17, x229_23, x229_24, x229_27, x229_28, x229_29, x229_30, x229_33, x229_36, x229_37, x229_40, x229_41, x229_44, x229_45, x229_46, x229_47, x229_48, x229_51, x229_52, x229_55, x229_56, x229_57, x229_58, x229_59, x229_60, x229_63, x229_66, x229_69, x229_70, gk_some, pk_some, qk_some, bnd_v, bnd_n, kl_int, kl_ref, kl_null, kl_un, Nat.reduceAdd, if_true, if_false, gm0, gm1, gm2, gm3, gm4, gm5, gm6, gm7, gm8, gm9, gm10, gm11, gm12, gm13, gm14, gm15, gm16, gm17, gm18, gm19, gm20, gm21, gm22, rvM, e18, e19, sq, a2, b, r9, st, r8, c2, I_1, i2]
      · rw [x229_18, x229_19, x229_20, if_pos a, if_neg (fun z => c2 z.2)]
        simp only [x229_0, x229_1, x229_2, x229_3, x229_6, x229_7, x229_8, x229_9, x229_10, x229_11, x229_14, x229_15, x229_16, x229_17, x229_23, x229_24, x229_27, x229_28, x229_29, x229_30, x229_33, x229_36, x229_37, x229_40, x229_41, x229_44, x229_45, x229_46, x229_47, x229_48, x229_51, x229_52, x229_55, x229_56, x229_57, x229_58, x229_59, x229_60, x229_63, x229_66, x229_69, x229_70, gk_some, pk_some, qk_some, bnd_v, bnd_n, kl_int, kl_ref, kl_null, kl_un, Nat.reduceAdd, if_true, if_false, gm0, gm1, gm2, gm3, gm4, gm5, gm6, gm7, gm8, gm9, gm10, gm11, gm12, gm13, gm14, gm15, gm16, gm17, gm18, gm19, gm20, gm21, gm22, rvM, e18, e19, sq, a2, b, r9, st, r8, c2]
    · have a2 : ¬ I (q + t) < I n := fun z => c ((I_lt (by omega) (by omega)).mp z)
      rw [x229_18, x229_19, x229_20, if_pos a, if_neg (fun z => c z.1)]
      simp only [x229_0, x229_1, x229_2, x229_3, x229_6, x229_7, x229_8, x229_9, x229_10, x229_11, x229_14, x229_15, x229_16, x229_17, x229_23, x229_24, x229_27, x229_28, x229_29, x229_30, x229_33, x229_36, x229_37, x229_40, x229_41, x229_44, x229_45, x229_46, x229_47, x229_48, x229_51, x229_52, x229_55, x229_56, x229_57, x229_58, x229_59, x229_60, x229_63, x229_66, x229_69, x229_70, gk_some, pk_some, qk_some, bnd_v, bnd_n, kl_int, kl_ref, kl_null, kl_un, Nat.reduceAdd, if_true, if_false, gm0, gm1, gm2, gm3, gm4, gm5, gm6, gm7, gm8, gm9, gm10, gm11, gm12, gm13, gm14, gm15, gm16, gm17, gm18, gm19, gm20, gm21, gm22, rvM, e18, e19, sq, a2]
/-- how far form i is like the text at q -/
def likN (f : Nat → Int32) (n q i : Nat) : Nat := lkn f n q (bg i) (bg (i + 1) - bg i) 0
theorem m229 {n q i : Nat} (hi : i < 7) (hn : n ≤ 60) (hq : q ≤ 60) (e18 : g 18 = I q) (e19 : g 19 = I n) : rcal 229 [.ref p, .int (I i)] (mput h p g A, r) = some (.inl (some (.int (I (likN (A 6) n q i)))), (mput h p g A, r)) := by
  have hb := bg_le i hi
  have l := l229 h (p := p) g A r hi hn hq e18 e19 (bg (i + 1) - bg i) 0 (by omega)
  rw [show I 0 = 0 from rfl] at l
  have r9 := rd9 h g A r (p := p) (k := i) (by omega)
  have r9' := rd9 h g A r (p := p) (k := i + 1) (by omega)
  have sb : I (bg (i + 1)) - I (bg i) = I (bg (i + 1) - bg i) := (Int32.ofNat_sub _ _ hb.1).symm
  simp only [c229, x229_0, x229_1, x229_2, x229_3, x229_6, x229_7, x229_8, x229_9, x229_10, x229_11, x229_14, x229_15, x229_16, x229_17, x229_19, x229_20, x229_23, x229_24, x229_27, x229_28, x229_29, x229_30, x229_33, x229_36, x229_37, x229_40, x229_41, x229_44, x229_45, x229_46, x229_47, x229_48, x229_51, x229_52, x229_55, x229_56, x229_57, x229_58, x229_59, x229_60, x229_63, x229_66, x229_69, x229_70, gk_some, pk_some, qk_some, bnd_v, bnd_n, kl_int, kl_ref, kl_null, kl_un, Nat.reduceAdd, if_true, if_false, gm0, gm1, gm2, gm3, gm4, gm5, gm6, gm7, gm8, gm9, gm10, gm11, gm12, gm13, gm14, gm15, gm16, gm17, gm18, gm19, gm20, gm21, gm22, rvM, I_1, r9, r9', sb, l, likN]
end MLIKE
