/-! the reference reads a command -/
theorem gE_u18 (g : Nat → Int32) (er : Bool) (q q' : Nat) : up (gE g er q) 18 (I q') = gE g er q' := by unfold gE; rw [up_up]
theorem gE_u20 (g : Nat → Int32) (er er' : Bool) (q : Nat) : up (gE g er q) 20 (b2i er') = gE g er' q := by
  funext i
  unfold gE up
  by_cases e : i = 20
  · subst e; simp
  · by_cases e2 : i = 18
    · simp [e2]
    · simp [e, e2]
theorem gE_u17 (g : Nat → Int32) (er : Bool) (q : Nat) (v : Int32) : up (gE g er q) 17 v = gE (up g 17 v) er q := by
  funext i
  unfold gE up
  by_cases e : i = 17
  · subst e; simp
  · simp [e]
def bsL (f : Nat → Int32) (n q : Nat) : Nat → Nat → Nat → Nat
  | 0, _, b => b
  | d + 1, k, b => bsL f n q d (k + 1) (if likN f n q b < likN f n q k then k else b)
theorem bsL_lt {f : Nat → Int32} {n q : Nat} : ∀ d k b, d + k = 7 → b < 7 → bsL f n q d k b < 7
  | 0, _, b, _, hb => hb
  | d + 1, k, b, hd, hb => by
    unfold bsL
    refine bsL_lt d (k + 1) _ (by omega) ?_
    split <;> omega
theorem likN_le (f : Nat → Int32) (n q i : Nat) (hi : i < 7) : likN f n q i ≤ bg (i + 1) - bg i := by
  have := (lkn_le f n q (bg i) (bg (i + 1) - bg i) 0).2
  unfold likN; omega
section MCOM
variable (h : PH) {p : Nat} (g : Nat → Int32) (A : Nat → Nat → Int32) (r : Nat × Nat × Nat)
theorem l231 {n q : Nat} (v : Int32) (hn : n ≤ 60) (hq : q ≤ 60) (e18 : g 18 = I q) (e19 : g 19 = I n) : ∀ (d k b : Nat), d + k = 7 → b < 7 → rn 231 11 [.ref p, .int v, .int (I b), .int (I k)] [] (mput h p g A, r) = rn 231 42 [.ref p, .int v, .int (I (bsL (A 6) n q d k b)), .int 7] [] (mput h p g A, r) := by
  intro d
  induction d with
  | zero =>
    intro k b hk hb
    have e : k = 7 := by omega
    subst e
    have a : ¬ I 7 < 7 := by decide
    rw [x231_11, x231_12, x231_14, if_neg a]
    rfl
  | succ d ih =>
    intro k b hk hb
    have a : I k < 7 := (I_lt (b := 7) (by omega) (by decide)).mpr (by omega)
    have t1 := m229 h (p := p) g A r (i := k) (by omega) hn hq e18 e19
    have t2 := m229 h (p := p) g A r (i := b) hb hn hq e18 e19
    have b1 := likN_le (A 6) n q k (by omega)
    have b2 := likN_le (A 6) n q b hb
    have c1 := bg_le k (by omega)
    have c2 := bg_le b hb
    rw [x231_11, x231_12, x231_14, if_pos a]
    unfold bsL
    by_cases c : likN (A 6) n q b < likN (A 6) n q k
    · have o := (I_lt (a := likN (A 6) n q b) (b := likN (A 6) n q k) (by omega) (by omega)).mpr c
      have i2 := ih (k + 1) k (by omega) (by omega)
      rw [if_pos c]
      simp only [x231_0, x231_1, x231_2, x231_5, x231_6, x231_7, x231_8, x231_9, x231_10, x231_17, x231_18, x231_19, x231_22, x231_23, x231_24, x231_27, x231_30, x231_31, x231_35, x231_36, x231_39, x231_34, x231_43, x231_44, x231_47, x231_48, x231_49, x231_50, x231_53, x231_54, x231_55, x231_58, x231_59, x231_60, x231_61, x231_64, x231_65, x231_66, x231_67, x231_68, x231_69, x231_72, x231_73, x231_74, x231_75, x231_78, x231_79, x231_83, x231_86, x231_87, x231_90, x231_93, x231_94, x231_97, x231_98, x231_99, x231_100, x231_101, x231_102, x231_105, x231_106, x231_107, x231_110, x231_111, x231_112, x231_113, x231_114, x231_115, x231_118, x231_82, gk_some, pk_some, qk_some, bnd_v, bnd_n, kl_int, kl_ref, kl_null, kl_un, Nat.reduceAdd, if_true, if_false, gm0, gm1, gm2, gm3, gm4, gm5, gm6, gm7, gm8, gm9, gm10, gm11, gm12, gm13, gm14, gm15, gm16, gm17, gm18, gm19, gm20, gm21, gm22, rvM, t1, t2, o, I_1, i2]
    · have o : ¬ I (likN (A 6) n q b) < I (likN (A 6) n q k) := fun z => c ((I_lt (by omega) (by omega)).mp z)
      have i2 := ih (k + 1) b (by omega) hb
      rw [if_neg c]
      simp only [x231_0, x231_1, x231_2, x231_5, x231_6, x231_7, x231_8, x231_9, x231_10, x231_17, x231_18, x231_19, x231_22, x231_23, x231_24, x231_27, x231_30, x231_31, x231_35, x231_36, x231_39, x231_34, x231_43, x231_44, x231_47, x231_48, x231_49, x231_50, x231_53, x231_54, x231_55, x231_58, x231_59, x231_60, x231_61, x231_64, x231_65, x231_66, x231_67, x231_68, x231_69, x231_72, x231_73, x231_74, x231_75, x231_78, x231_79, x231_83, x231_86, x231_87, x231_90, x231_93, x231_94, x231_97, x231_98, x231_99, x231_100, x231_101, x231_102, x231_105, x231_106, x231_107, x231_110, x231_111, x231_112, x231_113, x231_114, x231_115, x231_118, x231_82, gk_some, pk_some, qk_some, bnd_v, bnd_n, kl_int, kl_ref, kl_null, kl_un, Nat.reduceAdd, if_true, if_false, gm0, gm1, gm2, gm3, gm4, gm5, gm6, gm7, gm8, gm9, gm10, gm11, gm12, gm13, gm14, gm15, gm16, gm17, gm18, gm19, gm20, gm21, gm22, rvM, t1, t2, o, I_1, i2]
/-- the likest form; how far; is it whole -/
abbrev bsF (f : Nat → Int32) (n q : Nat) : Nat := bsL f n q 6 1 0
theorem m231n (hp : 32 ≤ p) {n q cn : Nat} {er : Bool} (hn : n ≤ 60) (hq : q ≤ 60) (e19 : g 19 = I n) (e17 : g 17 = I cn) (hs : likN (A 6) n q (bsF (A 6) n q) < bg (bsF (A 6) n q + 1) - bg (bsF (A 6) n q)) : rcal 231 [.ref p] (mput h p (gE g er q) A, r) = some (.inl none, (mput h p (gE g true (q + likN (A 6) n q (bsF (A 6) n q))) A, r)) := by
  have k18 := gE_18 g er q
  have k19 : gE g er q 19 = I n := by rw [gE_o _ _ _ (by decide) (by decide)]; exact e19
  have k17 : gE g er q 17 = I cn := by rw [gE_o _ _ _ (by decide) (by decide)]; exact e17
  have l := l231 h (p := p) (gE g er q) A r (4 * I cn) hn hq k18 k19 6 1 0 rfl (by decide)
  rw [show I 0 = 0 from rfl, show I 1 = 1 from rfl] at l
  have hb : bsF (A 6) n q < 7 := bsL_lt 6 1 0 rfl (by decide)
  change _ = rn 231 42 [.ref p, .int (4 * I cn), .int (I (bsF (A 6) n q)), .int 7] [] (mput h p (gE g er q) A, r) at l
  generalize bsF (A 6) n q = b at *
  have t := m229 h (p := p) (gE g er q) A r (i := b) hb hn hq k18 k19
  have c := bg_le b hb
  have w18 := pm18 h (gE g er q) A r hp (I (q + likN (A 6) n q b))
  rw [gE_u18] at w18
  have r9 := rd9 h (gE g er (q + likN (A 6) n q b)) A r (p := p) (k := b) (by omega)
  have r9' := rd9 h (gE g er (q + likN (A 6) n q b)) A r (p := p) (k := b + 1) (by omega)
  have sb : I (bg (b + 1)) - I (bg b) = I (bg (b + 1) - bg b) := (Int32.ofNat_sub _ _ c.1).symm
  have o : I (likN (A 6) n q b) < I (bg (b + 1) - bg b) := (I_lt (by omega) (by omega)).mpr hs
  have w20 := pm20_1 h (gE g er (q + likN (A 6) n q b)) A r hp
  rw [show (1 : Int32) = b2i true from rfl, gE_u20] at w20
  have k20 : gE g true (q + likN (A 6) n q b) 20 = 1 := gE_20 ..
  have n1 : ¬ (1 : Int32) = 0 := by decide
  rw [show b2i true = 1 from rfl] at w20
  simp only [c231, x231_0, x231_1, x231_2, x231_5, x231_6, x231_7, x231_8, x231_9, x231_10, x231_12, x231_14, x231_17, x231_18, x231_19, x231_22, x231_23, x231_24, x231_27, x231_30, x231_31, x231_35, x231_36, x231_39, x231_34, x231_42, x231_43, x231_44, x231_47, x231_48, x231_49, x231_50, x231_53, x231_54, x231_55, x231_58, x231_59, x231_60, x231_61, x231_64, x231_65, x231_66, x231_67, x231_68, x231_69, x231_72, x231_73, x231_74, x231_75, x231_78, x231_79, x231_83, x231_86, x231_87, x231_90, x231_93, x231_94, x231_97, x231_98, x231_99, x231_100, x231_101, x231_102, x231_105, x231_106, x231_107, x231_110, x231_111, x231_112, x231_113, x231_114, x231_115, x231_118, x231_82, gk_some, pk_some, qk_some, bnd_v, bnd_n, kl_int, kl_ref, kl_null, kl_un, Nat.reduceAdd, if_true, if_false, gm0, gm1, gm2, gm3, gm4, gm5, gm6, gm7, gm8, gm9, gm10, gm11, gm12, gm13, gm14, gm15, gm16, gm17, gm18, gm19, gm20, gm21, gm22, rvM, k17, k18, l, t, I_add, w18, I_1, r9, r9', sb, o, w20, k20, n1]
theorem m231 (hp : 32 ≤ p) {n q cn : Nat} {er : Bool} (hn : n ≤ 60) (hq : q ≤ 60) (e19 : g 19 = I n) (e17 : g 17 = I cn) (hc : cn < 60) (hs : ¬ likN (A 6) n q (bsF (A 6) n q) < bg (bsF (A 6) n q + 1) - bg (bsF (A 6) n q)) {H' : HS} (e230 : rcal 230 [.ref p, .int (I (bsF (A 6) n q)), .int (I (4 * cn + 1))] (mput h p (gE (up g 17 (I (cn + 1))) false (q + likN (A 6) n q (bsF (A 6) n q))) (ua A 10 (up (A 10) (4 * cn) (I (bsF (A 6) n q)))), r) = some (.inl none, H')) : rcal 231 [.ref p] (mput h p (gE g er q) A, r) = some (.inl none, H') := by
  have k18 := gE_18 g er q
  have k19 : gE g er q 19 = I n := by rw [gE_o _ _ _ (by decide) (by decide)]; exact e19
  have k17 : gE g er q 17 = I cn := by rw [gE_o _ _ _ (by decide) (by decide)]; exact e17
  have l := l231 h (p := p) (gE g er q) A r (I (4 * cn)) hn hq k18 k19 6 1 0 rfl (by decide)
  rw [show I 0 = 0 from rfl, show I 1 = 1 from rfl] at l
  have hb : bsF (A 6) n q < 7 := bsL_lt 6 1 0 rfl (by decide)
  change _ = rn 231 42 [.ref p, .int (I (4 * cn)), .int (I (bsF (A 6) n q)), .int 7] [] (mput h p (gE g er q) A, r) at l
  generalize bsF (A 6) n q = b at *
  have t := m229 h (p := p) (gE g er q) A r (i := b) hb hn hq k18 k19
  have c := bg_le b hb
  have w18 := pm18 h (gE g er q) A r hp (I (q + likN (A 6) n q b))
  rw [gE_u18] at w18
  have r9 := rd9 h (gE g er (q + likN (A 6) n q b)) A r (p := p) (k := b) (by omega)
  have r9' := rd9 h (gE g er (q + likN (A 6) n q b)) A r (p := p) (k := b + 1) (by omega)
  have sb : I (bg (b + 1)) - I (bg b) = I (bg (b + 1) - bg b) := (Int32.ofNat_sub _ _ c.1).symm
  have lb := likN_le (A 6) n q b hb
  have o : ¬ I (likN (A 6) n q b) < I (bg (b + 1) - bg b) := fun z => hs ((I_lt (by omega) (by omega)).mp z)
  have w20 := pm20_0 h (gE g er (q + likN (A 6) n q b)) A r hp
  rw [show (0 : Int32) = b2i false from rfl, gE_u20] at w20
  have k20 : gE g false (q + likN (A 6) n q b) 20 = 0 := gE_20 ..
  rw [show b2i false = 0 from rfl] at w20
  have m4 : 4 * I cn = I (4 * cn) := I_tim 4 cn
  have wc := wn10 h (gE g false (q + likN (A 6) n q b)) A r hp (n := 4 * cn) (by omega) (I b)
  have k17' : gE g false (q + likN (A 6) n q b) 17 = I cn := by rw [gE_o _ _ _ (by decide) (by decide)]; exact e17
  have w17 := pm17 h (gE g false (q + likN (A 6) n q b)) (ua A 10 (up (A 10) (4 * cn) (I b))) r hp (I (cn + 1))
  rw [gE_u17] at w17
  simp only [c231, x231_0, x231_1, x231_2, x231_5, x231_6, x231_7, x231_8, x231_9, x231_10, x231_12, x231_14, x231_17, x231_18, x231_19, x231_22, x231_23, x231_24, x231_27, x231_30, x231_31, x231_35, x231_36, x231_39, x231_34, x231_42, x231_43, x231_44, x231_47, x231_48, x231_49, x231_50, x231_53, x231_54, x231_55, x231_58, x231_59, x231_60, x231_61, x231_64, x231_65, x231_66, x231_67, x231_68, x231_69, x231_72, x231_73, x231_74, x231_75, x231_78, x231_79, x231_83, x231_86, x231_87, x231_90, x231_93, x231_94, x231_97, x231_98, x231_99, x231_100, x231_101, x231_102, x231_105, x231_106, x231_107, x231_110, x231_111, x231_112, x231_113, x231_114, x231_115, x231_118, x231_82, gk_some, pk_some, qk_some, bnd_v, bnd_n, kl_int, kl_ref, kl_null, kl_un, Nat.reduceAdd, if_true, if_false, gm0, gm1, gm2, gm3, gm4, gm5, gm6, gm7, gm8, gm9, gm10, gm11, gm12, gm13, gm14, gm15, gm16, gm17, gm18, gm19, gm20, gm21, gm22, rvM, k17, m4, k18, l, t, I_add, w18, I_1, r9, r9', sb, o, w20, k20, wc, k17', w17, e230]
end MCOM
