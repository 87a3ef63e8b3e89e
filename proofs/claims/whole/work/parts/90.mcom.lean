/-! the reference reads a command -/
theorem gE_u18 (g : Nat → Int32) (er : Bool) (q q' : Nat) : up (gE g er q) 18 (I q') = gE g er q' := by unfold gE; rw [up_up]
theorem gE_u20 (g : Nat → Int32) (er er' : Bool) (q : Nat) : up (gE g er q) 20 (b2i er') = gE g er' q := by
  funext i
  unfold gE up
  by_cases e : i = 20
  · subst e; simp
  · by_cases e2 : i = 18
    · simp [e2]
    · simp [e, e2]
theorem gE_u17 (g : Nat → Int32) (er : Bool) (q : Nat) (v : Int32) : up (gE g er q) 17 v = gE (up g 17 v) er q := by
  funext i
  unfold gE up
  by_cases e : i = 17
  · subst e; simp
  · simp [e]
def bsL (f : Nat → Int32) (n q : Nat) : Nat → Nat → Nat → Nat
  | 0, _, b => b
  | d + 1, k, b => bsL f n q d (k + 1) (if likN f n q b < likN f n q k then k else b)
theorem bsL_lt {f : Nat → Int32} {n q : Nat} : ∀ d k b, d + k = 7 → b < 7 → bsL f n q d k b < 7
  | 0, _, b, _, hb => hb
  | d + 1, k, b, hd, hb => by
    unfold bsL
    refine bsL_lt d (k + 1) _ (by omega) ?_
    split <;> omega
theorem likN_le (f : Nat → Int32) (n q i : Nat) (hi : i < 7) : likN f n q i ≤ bg (i + 1) - bg i := by
  have := (lkn_le f n q (bg i) (bg (i + 1) - bg i) 0).2
  unfold likN; omega
section MCOM
variable (h : PH) {p : Nat} (g : Nat → Int32) (A : Nat → Nat → Int32) (r : Nat × Nat × Nat)
theorem l231 {n q : Nat} (v : Int32) (hn : n ≤ 60) (hq : q ≤ 60) (e18 : g 18 = I q) (e19 : g 19 = I n) : ∀ (d k b : Nat), d + k = 7 → b < 7 → rn 231 11 [.ref p, .int v, .int (I b), .int (I k)] [] (mput h p g A, r) = rn 231 42 [.ref p, .int v, .int (I (bsL (A 6) n q d k b)), .int 7] [] (mput h p g A, r) := by
  intro d
  induction d with
  | zero =>
    intro k b hk hb
    have e : k = 7 := by omega
    subst e
    have a : ¬ I 7 < 7 := by decide
    rw [x231_11, x231_12, x231_14, if_neg a]
    rfl
  | succ d ih =>
    intro k b hk hb
    have a : I k < 7 := (I_lt (b := 7) (by omega) (by decide)).mpr (by omega)
    have t1 := m229 h (p := p) g A r (i := k) (by omega) hn hq e18 e19
    have t2 := m229 h (p := p) g A r (i := b) hb hn hq e18 e19
    have b1 := likN_le (A 6) n q k (by omega)
    have b2 := likN_le (A 6) n q b hb
    have c1 := bg_le k (by omega)
    have c2 := bg_le b hb
    rw [x231_11, x231_12, x231_14, if_pos a]
    unfold bsL
    by_cases c : likN (A 6) n q b < likN (A 6) n q k
    · have o := (I_lt (a := likN (A 6) n q b) (b := likN (A 6) n q k) (by omega) (by omega)).mpr c
      have i2 := ih (k + 1) k (by omega) (by omega)
      rw [if_pos c]
      simp only [x231_0, x231_1, x231_2, x231_5, x231_6, x231_7, x231_8, x231_9, x231_10, x231_17, x231_18, x231_19, x231_22, x231_23, x231_24, x231_27, x231_30, x231_31, x231_35, x231_36, x231_39, x231_34, x231_43, x231_44, x231_47, x231_48, x231_49, x231_50, x231_53, x231_54, x231_55, x231_58, x231_59, x231_60, x231_61, x231_64, x231_65, x231_66, x231_67, x231_68, x231_69, x231_72, x231_73, x231_74, x231_75, x231_78, x231_79, x231_83, x231_86, x231_87, x231_90, x231_93, x231_94, x231_97, x231_98, x231_99, x231_100, x231_101, x231_102, x231_105, x231_106, x231_107, x231_110, x231_111, x231_112, x231_113, x231_114, x231_115, x231_118, x231_82, gk_some, pk_some, qk_some, bnd_v, bnd_n, kl_int, kl_ref, kl_null, kl_un, Nat.reduceAdd, if_true, if_false, gm0, gm1, gm2, gm3, gm4, gm5, gm6, gm7, gm8, gm9, gm10, gm11, gm12, gm13, gm14, gm15, gm16, gm17, gm18, gm19, gm20, gm21, gm22, rvM, t1, t2, o, I_1, i2]
    · have o : ¬ I (likN (A 6) n q b) < I (likN (A 6) n q k) := fun z => c ((I_lt (by omega) (by omega)).mp z)
      have i2 := ih (k + 1) b (by omega) hb
      rw [if_neg c]
      simp only [x231_0, x231_1, x231_2, x231_5, x231_6, x231_7, x231_8, x231_9, x231_10, x231_17, x231_18, x231_19, x231_22, x231_23, x231_24, x231_27, x231_30, x231_31, x231_35, x231_36, x231_39, x231_34, x231_43, x231_44, x231_47, x231_48, x231_49, x231_50, x231_53, x231_54, x231_55, x231_58, x231_59, x231_60, x231_61, x231_64, x231_65, x231_66, x231_67, x231_68, x231_69, x231_72, x231_73, x231_74, x231_75, x231_78, x231_79, x231_83, x231_86, x231_87, x231_90, x231_93, x231_94, x231_97, x231_98, x231_99, x231_100, x231_101, x231_102, x231_105, x231_106, x231_107, x231_110, x231_111, x231_112, x231_113, x231_114, x231_115, x231_118, x231_82, gk_some, pk_some, qk_some, bnd_v, bnd_n, kl_int, kl_ref, kl_null, kl_un, Nat.reduceAdd, if_true, if_false, gm0, gm1, gm2, gm3, gm4, gm5, gm6, gm7, gm8, gm9, gm10, gm11, gm12, gm13, gm14, gm15, gm16, gm17, gm18, gm19, gm20, gm21, gm22, rvM, t1, t2, o, I_1, i2]
end MCOM
