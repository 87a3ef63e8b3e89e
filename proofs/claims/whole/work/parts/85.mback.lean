/-! the reference: it starts, it saves, restores and takes back -/
def cpA (i m : Nat) (src dst : Nat → Int32) : Nat → Int32 := fun x => if i ≤ x ∧ x < m then src x else dst x
theorem cpA_0 (m : Nat) (src dst : Nat → Int32) : cpA m m src dst = dst := by
  funext x; unfold cpA; rw [if_neg (by omega)]
theorem cpA_s {i m : Nat} (hi : i < m) (src dst : Nat → Int32) : cpA (i + 1) m src (up dst i (src i)) = cpA i m src dst := by
  funext x
  unfold cpA up
  by_cases e : x = i
  · subst e; rw [if_neg (by omega), if_pos rfl, if_pos ⟨Nat.le_refl _, hi⟩]
  · by_cases q : i + 1 ≤ x ∧ x < m
    · rw [if_pos q, if_pos ⟨by omega, q.2⟩]
    · rw [if_neg q, if_neg e, if_neg (by omega)]
theorem ua_self (A : Nat → Nat → Int32) (k : Nat) : ua A k (A k) = A := by
  funext j; unfold ua; split
  · next e => rw [e]
  · rfl
section MBACK
variable (h : PH) {p : Nat} (g : Nat → Int32) (r : Nat × Nat × Nat)
theorem l152 (hp : 32 ≤ p) : ∀ (d i : Nat) (A : Nat → Nat → Int32), i + d = 76 → rn 152 7 [.ref p, .int (I i)] [] (mput h p g A, r) = rn 152 31 [.ref p, .int 76] [] (mput h p g (ua A 2 (cpA i 76 (A 1) (A 2))), r) := by
  intro d
  induction d with
  | zero =>
    intro i A hi
    have e : i = 76 := by omega
    subst e
    have a : ¬ I 76 < 76 := by decide
    rw [x152_7, x152_8, x152_10, if_neg a, cpA_0, ua_self]
    rfl
  | succ d ih =>
    intro i A hi
    have a : I i < 76 := (I_lt (b := 76) (by omega) (by decide)).mpr (by omega)
    have b := rn1 h g A r (p := p) (n := i) (by omega)
    have w := wn2 h g A r hp (n := i) (by omega) (A 1 i)
    have i2 := ih (i + 1) (ua A 2 (up (A 2) i (A 1 i))) (by omega)
    rw [ua_ne A _ (show 1 ≠ 2 by decide), ua_eq, ua_ua, cpA_s (by omega)] at i2
    rw [x152_7, x152_8, x152_10, if_pos a]
    simp only [x152_13, x152_14, x152_17, x152_18, x152_19, x152_22, x152_23, x152_24, x152_25, x152_28, gk_some, pk_some, qk_some, bnd_v, bnd_n, kl_int, kl_ref, kl_null, kl_un, Nat.reduceAdd, if_true, if_false, gm0, gm1, gm2, gm3, gm4, gm5, gm6, gm7, gm8, gm9, gm10, gm11, gm12, gm13, gm14, gm15, gm16, gm17, gm18, gm19, gm20, gm21, gm22, rvM, b, w, I_1, i2]
theorem m152 (hp : 32 ≤ p) (A : Nat → Nat → Int32) : rcal 152 [.ref p] (mput h p g A, r) = some (.inl none, (mput h p (up g 9 0) (ua A 2 (cpA 0 76 (A 1) (A 2))), r)) := by
  have w := pm9 h g A r hp 0
  have l := l152 h (up g 9 0) r hp 76 0 A rfl
  rw [show I 0 = 0 from rfl] at l
  simp only [c152, x152_0, x152_1, x152_2, x152_5, x152_6, x152_31, gk_some, pk_some, qk_some, bnd_v, bnd_n, kl_int, kl_ref, kl_null, kl_un, Nat.reduceAdd, if_true, if_false, w, l]
theorem l242 (hp : 32 ≤ p) : ∀ (d i : Nat) (A : Nat → Nat → Int32), i + d = 76 → rn 242 7 [.ref p, .int (I i)] [] (mput h p g A, r) = rn 242 31 [.ref p, .int 76] [] (mput h p g (ua A 4 (cpA i 76 (A 1) (A 4))), r) := by
  intro d
  induction d with
  | zero =>
    intro i A hi
    have e : i = 76 := by omega
    subst e
    have a : ¬ I 76 < 76 := by decide
    rw [x242_7, x242_8, x242_10, if_neg a, cpA_0, ua_self]
    rfl
  | succ d ih =>
    intro i A hi
    have a : I i < 76 := (I_lt (b := 76) (by omega) (by decide)).mpr (by omega)
    have b := rn1 h g A r (p := p) (n := i) (by omega)
    have w := wn4 h g A r hp (n := i) (by omega) (A 1 i)
    have i2 := ih (i + 1) (ua A 4 (up (A 4) i (A 1 i))) (by omega)
    rw [ua_ne A _ (show 1 ≠ 4 by decide), ua_eq, ua_ua, cpA_s (by omega)] at i2
    rw [x242_7, x242_8, x242_10, if_pos a]
    simp only [x242_0, x242_1, x242_2, x242_5, x242_6, x242_13, x242_14, x242_17, x242_18, x242_19, x242_22, x242_23, x242_24, x242_25, x242_28, x242_32, x242_33, x242_36, gk_some, pk_some, qk_some, bnd_v, bnd_n, kl_int, kl_ref, kl_null, kl_un, Nat.reduceAdd, if_true, if_false, gm0, gm1, gm2, gm3, gm4, gm5, gm6, gm7, gm8, gm9, gm10, gm11, gm12, gm13, gm14, gm15, gm16, gm17, gm18, gm19, gm20, gm21, gm22, rvM, b, w, I_1, i2]
theorem m242 (hp : 32 ≤ p) (A : Nat → Nat → Int32) : rcal 242 [.ref p] (mput h p g A, r) = some (.inl none, (mput h p (up (up g 9 0) 4 1) (ua A 4 (cpA 0 76 (A 1) (A 4))), r)) := by
  have w := pm9 h g A r hp 0
  have l := l242 h (up g 9 0) r hp 76 0 A rfl
  rw [show I 0 = 0 from rfl] at l
  have w4 := pm4_1 h (up g 9 0) (ua A 4 (cpA 0 76 (A 1) (A 4))) r hp
  simp only [c242, x242_0, x242_1, x242_2, x242_5, x242_6, x242_13, x242_14, x242_17, x242_18, x242_19, x242_22, x242_23, x242_24, x242_25, x242_28, x242_31, x242_32, x242_33, x242_36, gk_some, pk_some, qk_some, bnd_v, bnd_n, kl_int, kl_ref, kl_null, kl_un, Nat.reduceAdd, if_true, if_false, w, l, w4]
theorem l243 (hp : 32 ≤ p) : ∀ (d i : Nat) (A : Nat → Nat → Int32), i + d = 76 → rn 243 21 [.ref p, .int (I i)] [] (mput h p g A, r) = rn 243 45 [.ref p, .int 76] [] (mput h p g (ua A 1 (cpA i 76 (A 4) (A 1))), r) := by
  intro d
  induction d with
  | zero =>
    intro i A hi
    have e : i = 76 := by omega
    subst e
    have a : ¬ I 76 < 76 := by decide
    rw [x243_21, x243_22, x243_24, if_neg a, cpA_0, ua_self]
    rfl
  | succ d ih =>
    intro i A hi
    have a : I i < 76 := (I_lt (b := 76) (by omega) (by decide)).mpr (by omega)
    have b := rn4 h g A r (p := p) (n := i) (by omega)
    have w := wn1 h g A r hp (n := i) (by omega) (A 4 i)
    have i2 := ih (i + 1) (ua A 1 (up (A 1) i (A 4 i))) (by omega)
    rw [ua_ne A _ (show 4 ≠ 1 by decide), ua_eq, ua_ua, cpA_s (by omega)] at i2
    rw [x243_21, x243_22, x243_24, if_pos a]
    simp only [x243_0, x243_1, x243_2, x243_5, x243_6, x243_9, x243_12, x243_13, x243_14, x243_17, x243_18, x243_19, x243_20, x243_27, x243_28, x243_31, x243_32, x243_33, x243_36, x243_37, x243_38, x243_39, x243_42, x243_46, x243_47, x243_50, gk_some, pk_some, qk_some, bnd_v, bnd_n, kl_int, kl_ref, kl_null, kl_un, Nat.reduceAdd, if_true, if_false, gm0, gm1, gm2, gm3, gm4, gm5, gm6, gm7, gm8, gm9, gm10, gm11, gm12, gm13, gm14, gm15, gm16, gm17, gm18, gm19, gm20, gm21, gm22, rvM, b, w, I_1, i2]
theorem m243 (hp : 32 ≤ p) (A : Nat → Nat → Int32) (e4 : ¬ g 4 = 0) : rcal 243 [.ref p] (mput h p g A, r) = some (.inl none, (mput h p (up (up g 9 0) 6 0) (ua A 1 (cpA 0 76 (A 4) (A 1))), r)) := by
  have w := pm9 h g A r hp 0
  have l := l243 h (up g 9 0) r hp 76 0 A rfl
  rw [show I 0 = 0 from rfl] at l
  have w6 := pm6 h (up g 9 0) (ua A 1 (cpA 0 76 (A 4) (A 1))) r hp 0
  have e4' : ¬ up g 9 0 4 = 0 := by rw [up_ne _ _ (by decide)]; exact e4
  simp only [c243, x243_0, x243_1, x243_2, x243_5, x243_6, x243_9, x243_12, x243_13, x243_14, x243_17, x243_18, x243_19, x243_20, x243_27, x243_28, x243_31, x243_32, x243_33, x243_36, x243_37, x243_38, x243_39, x243_42, x243_45, x243_46, x243_47, x243_50, gk_some, pk_some, qk_some, bnd_v, bnd_n, kl_int, kl_ref, kl_null, kl_un, Nat.reduceAdd, if_true, if_false, gm0, gm1, gm2, gm3, gm4, gm5, gm6, gm7, gm8, gm9, gm10, gm11, gm12, gm13, gm14, gm15, gm16, gm17, gm18, gm19, gm20, gm21, gm22, rvM, w, e4', l, w6]
end MBACK
