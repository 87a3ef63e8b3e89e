/-! the reference: it takes back, it keeps what was -/
theorem I_tim (a b : Nat) : I a * I b = I (a * b) := (Int32.ofNat_mul a b).symm
theorem I_76 (b : Nat) : (76 : Int32) * I b = I (76 * b) := I_tim 76 b
def shA (i : Nat) (f : Nat → Int32) : Nat → Int32 := fun x => if i ≤ x ∧ x < 532 then f (x + 76) else f x
theorem shA_0 (f : Nat → Int32) : shA 532 f = f := by
  funext x; unfold shA; rw [if_neg (by omega)]
theorem shA_s {i : Nat} (hi : i < 532) (f : Nat → Int32) : shA (i + 1) (up f i (f (i + 76))) = shA i f := by
  funext x
  unfold shA up
  by_cases e : x = i
  · subst e; rw [if_neg (by omega), if_pos rfl, if_pos ⟨Nat.le_refl _, hi⟩]
  · by_cases q : i + 1 ≤ x ∧ x < 532
    · rw [if_pos q, if_neg (by omega), if_pos ⟨by omega, q.2⟩]
    · rw [if_neg q, if_neg e, if_neg (by omega)]
def cpB (q i : Nat) (src dst : Nat → Int32) : Nat → Int32 := fun y => if 76 * q + i ≤ y ∧ y < 76 * q + 76 then src (y - 76 * q) else dst y
theorem cpB_0 (q : Nat) (src dst : Nat → Int32) : cpB q 76 src dst = dst := by
  funext x; unfold cpB; rw [if_neg (by omega)]
theorem cpB_s {q i : Nat} (hi : i < 76) (src dst : Nat → Int32) : cpB q (i + 1) src (up dst (76 * q + i) (src i)) = cpB q i src dst := by
  funext x
  unfold cpB up
  by_cases e : x = 76 * q + i
  · subst e; rw [if_neg (by omega), if_pos rfl, if_pos ⟨Nat.le_refl _, by omega⟩, show 76 * q + i - 76 * q = i by omega]
  · by_cases z : 76 * q + (i + 1) ≤ x ∧ x < 76 * q + 76
    · rw [if_pos z, if_pos ⟨by omega, z.2⟩]
    · rw [if_neg z, if_neg e, if_neg (by omega)]
section MUNDO
variable (h : PH) {p : Nat} (g : Nat → Int32) (r : Nat × Nat × Nat)
theorem m150 (hp : 32 ≤ p) (A : Nat → Nat → Int32) (v : Int32) : rcal 150 [.ref p, .int v] (mput h p g A, r) = some (.inl (some (.int (-1))), (mput h p (up g 9 v) A, r)) := by
  simp only [c150, x150_0, x150_1, x150_2, x150_5, x150_6, gk_some, pk_some, qk_some, bnd_v, bnd_n, kl_int, kl_ref, kl_null, kl_un, Nat.reduceAdd, if_true, if_false, pm9 h _ _ _ hp]
theorem m243n (hp : 32 ≤ p) (A : Nat → Nat → Int32) (e4 : g 4 = 0) : rcal 243 [.ref p] (mput h p g A, r) = some (.inl none, (mput h p (up g 9 1) A, r)) := by
  have w := pm9 h g A r hp 0
  have e4' : up g 9 0 4 = 0 := by rw [up_ne _ _ (by decide)]; exact e4
  have t := m150 h (up g 9 0) r hp A 1
  rw [up_up] at t
  simp only [c243, x243_0, x243_1, x243_2, x243_5, x243_6, x243_9, x243_12, x243_13, x243_14, x243_17, x243_18, x243_19, x243_20, x243_27, x243_28, x243_31, x243_32, x243_33, x243_36, x243_37, x243_38, x243_39, x243_42, x243_45, x243_46, x243_47, x243_50, gk_some, pk_some, qk_some, bnd_v, bnd_n, kl_int, kl_ref, kl_null, kl_un, Nat.reduceAdd, if_true, if_false, gm0, gm1, gm2, gm3, gm4, gm5, gm6, gm7, gm8, gm9, gm10, gm11, gm12, gm13, gm14, gm15, gm16, gm17, gm18, gm19, gm20, gm21, gm22, rvM, w, e4', t]
theorem m241n (hp : 32 ≤ p) (A : Nat → Nat → Int32) (e6 : g 6 = 0) : rcal 241 [.ref p] (mput h p g A, r) = some (.inl (some (.int (-1))), (mput h p (up g 9 1) A, r)) := by
  have w := pm9 h g A r hp 0
  have e6' : up g 9 0 6 = 0 := by rw [up_ne _ _ (by decide)]; exact e6
  have t := m150 h (up g 9 0) r hp A 1
  rw [up_up] at t
  simp only [c241, x241_0, x241_1, x241_2, x241_5, x241_6, x241_9, x241_12, x241_13, x241_14, x241_17, x241_18, x241_19, x241_20, x241_23, x241_24, x241_25, x241_28, x241_29, x241_31, x241_33, x241_36, x241_37, x241_40, x241_41, x241_42, x241_45, x241_47, x241_48, x241_51, x241_52, x241_53, x241_54, x241_55, x241_56, x241_59, x241_62, x241_63, x241_66, gk_some, pk_some, qk_some, bnd_v, bnd_n, kl_int, kl_ref, kl_null, kl_un, Nat.reduceAdd, if_true, if_false, gm0, gm1, gm2, gm3, gm4, gm5, gm6, gm7, gm8, gm9, gm10, gm11, gm12, gm13, gm14, gm15, gm16, gm17, gm18, gm19, gm20, gm21, gm22, rvM, w, e6', t]
theorem l241 (hp : 32 ≤ p) {q : Nat} (hq : q < 8) (e6 : g 6 = I q) : ∀ (d i : Nat) (A : Nat → Nat → Int32), i + d = 76 → rn 241 30 [.ref p, .int (I i)] [] (mput h p g A, r) = rn 241 62 [.ref p, .int 76] [] (mput h p g (ua A 1 (cpA i 76 (fun x => A 5 (76 * q + x)) (A 1))), r) := by
  intro d
  induction d with
  | zero =>
    intro i A hi
    have e : i = 76 := by omega
    subst e
    have a : ¬ I 76 < 76 := by decide
    rw [x241_30, x241_31, x241_33, if_neg a, cpA_0, ua_self]
    rfl
  | succ d ih =>
    intro i A hi
    have a : I i < 76 := (I_lt (b := 76) (by omega) (by decide)).mpr (by omega)
    have b := rn5 h g A r (p := p) (n := 76 * q + i) (by omega)
    have w := wn1 h g A r hp (n := i) (by omega) (A 5 (76 * q + i))
    have i2 := ih (i + 1) (ua A 1 (up (A 1) i (A 5 (76 * q + i)))) (by omega)
    rw [ua_ne A _ (show 5 ≠ 1 by decide), ua_eq, ua_ua, show up (A 1) i (A 5 (76 * q + i)) = up (A 1) i ((fun x => A 5 (76 * q + x)) i) from rfl, cpA_s (by omega)] at i2
    rw [x241_30, x241_31, x241_33, if_pos a]
    simp only [x241_0, x241_1, x241_2, x241_5, x241_6, x241_9, x241_12, x241_13, x241_14, x241_17, x241_18, x241_19, x241_20, x241_23, x241_24, x241_25, x241_28, x241_29, x241_36, x241_37, x241_40, x241_41, x241_42, x241_45, x241_47, x241_48, x241_51, x241_52, x241_53, x241_54, x241_55, x241_56, x241_59, x241_63, x241_66, gk_some, pk_some, qk_some, bnd_v, bnd_n, kl_int, kl_ref, kl_null, kl_un, Nat.reduceAdd, if_true, if_false, gm0, gm1, gm2, gm3, gm4, gm5, gm6, gm7, gm8, gm9, gm10, gm11, gm12, gm13, gm14, gm15, gm16, gm17, gm18, gm19, gm20, gm21, gm22, rvM, e6, I_76, I_add, b, w, I_1, i2]
theorem m241 (hp : 32 ≤ p) (A : Nat → Nat → Int32) {q : Nat} (hq : q < 8) (e6 : g 6 = I (q + 1)) : rcal 241 [.ref p] (mput h p g A, r) = some (.inl (some (.int (I q))), (mput h p (up (up g 9 0) 6 (I q)) (ua A 1 (cpA 0 76 (fun x => A 5 (76 * q + x)) (A 1))), r)) := by
  have w := pm9 h g A r hp 0
  have e6' : up g 9 0 6 = I (q + 1) := by rw [up_ne _ _ (by decide)]; exact e6
  have o1 : ¬ I (q + 1) = 0 := fun y => by
    have y2 : Z (I (q + 1)) = 0 := by rw [y]; rfl
    rw [Z_I (by omega)] at y2; omega
  have s1 : I (q + 1) - 1 = I q := I_sub1 (by omega)
  have w6 := pm6 h (up g 9 0) A r hp (I q)
  have l := l241 h (up (up g 9 0) 6 (I q)) r hp hq (up_eq _ _ _) 76 0 A rfl
  rw [show I 0 = 0 from rfl] at l
  simp only [c241, x241_0, x241_1, x241_2, x241_5, x241_6, x241_9, x241_12, x241_13, x241_14, x241_17, x241_18, x241_19, x241_20, x241_23, x241_24, x241_25, x241_28, x241_29, x241_36, x241_37, x241_40, x241_41, x241_42, x241_45, x241_47, x241_48, x241_51, x241_52, x241_53, x241_54, x241_55, x241_56, x241_59, x241_62, x241_63, x241_66, gk_some, pk_some, qk_some, bnd_v, bnd_n, kl_int, kl_ref, kl_null, kl_un, Nat.reduceAdd, if_true, if_false, gm0, gm1, gm2, gm3, gm4, gm5, gm6, gm7, gm8, gm9, gm10, gm11, gm12, gm13, gm14, gm15, gm16, gm17, gm18, gm19, gm20, gm21, gm22, rvM, w, e6', o1, s1, w6, l, up_eq]
theorem l153a (hp : 32 ≤ p) (v : Int32) : ∀ (d i : Nat) (A : Nat → Nat → Int32), i + d = 532 → rn 153 20 [.ref p, .int v, .int (I i)] [] (mput h p g A, r) = rn 153 48 [.ref p, .int v, .int 532] [] (mput h p g (ua A 5 (shA i (A 5))), r) := by
  intro d
  induction d with
  | zero =>
    intro i A hi
    have e : i = 532 := by omega
    subst e
    have a : ¬ I 532 < 532 := by decide
    rw [x153_20, x153_21, x153_24, if_neg a, shA_0, ua_self]
    rfl
  | succ d ih =>
    intro i A hi
    have a : I i < 532 := (I_lt (b := 532) (by omega) (by decide)).mpr (by omega)
    have b := rn5 h g A r (p := p) (n := i + 76) (by omega)
    have w := wn5 h g A r hp (n := i) (by omega) (A 5 (i + 76))
    have i2 := ih (i + 1) (ua A 5 (up (A 5) i (A 5 (i + 76)))) (by omega)
    rw [ua_eq, ua_ua, shA_s (by omega)] at i2
    have s76 : I i + 76 = I (i + 76) := I_add i 76
    rw [x153_20, x153_21, x153_24, if_pos a]
    simp only [x153_0, x153_1, x153_4, x153_7, x153_8, x153_9, x153_10, x153_13, x153_15, x153_18, x153_19, x153_27, x153_28, x153_31, x153_32, x153_33, x153_36, x153_37, x153_39, x153_40, x153_41, x153_42, x153_45, x153_49, x153_50, x153_53, x153_54, x153_55, x153_58, x153_59, x153_60, x153_61, x153_63, x153_66, x153_67, x153_70, x153_72, x153_73, x153_76, x153_77, x153_78, x153_79, x153_80, x153_83, x153_84, x153_85, x153_86, x153_89, x153_92, x153_93, x153_94, x153_97, x153_98, x153_99, x153_102, x153_103, gk_some, pk_some, qk_some, bnd_v, bnd_n, kl_int, kl_ref, kl_null, kl_un, Nat.reduceAdd, if_true, if_false, gm0, gm1, gm2, gm3, gm4, gm5, gm6, gm7, gm8, gm9, gm10, gm11, gm12, gm13, gm14, gm15, gm16, gm17, gm18, gm19, gm20, gm21, gm22, rvM, s76, b, w, I_1, i2]
theorem l153b (hp : 32 ≤ p) {q : Nat} (hq : q < 8) (e6 : g 6 = I q) (v : Int32) : ∀ (d i : Nat) (A : Nat → Nat → Int32), i + d = 76 → rn 153 60 [.ref p, .int v, .int (I i)] [] (mput h p g A, r) = rn 153 92 [.ref p, .int v, .int 76] [] (mput h p g (ua A 5 (cpB q i (A 2) (A 5))), r) := by
  intro d
  induction d with
  | zero =>
    intro i A hi
    have e : i = 76 := by omega
    subst e
    have a : ¬ I 76 < 76 := by decide
    rw [x153_60, x153_61, x153_63, if_neg a, cpB_0, ua_self]
    rfl
  | succ d ih =>
    intro i A hi
    have a : I i < 76 := (I_lt (b := 76) (by omega) (by decide)).mpr (by omega)
    have b := rn2 h g A r (p := p) (n := i) (by omega)
    have w := wn5 h g A r hp (n := 76 * q + i) (by omega) (A 2 i)
    have i2 := ih (i + 1) (ua A 5 (up (A 5) (76 * q + i) (A 2 i))) (by omega)
    rw [ua_ne A _ (show 2 ≠ 5 by decide), ua_eq, ua_ua, cpB_s (by omega)] at i2
    rw [x153_60, x153_61, x153_63, if_pos a]
    simp only [x153_0, x153_1, x153_4, x153_7, x153_8, x153_9, x153_10, x153_13, x153_15, x153_18, x153_19, x153_20, x153_21, x153_24, x153_27, x153_28, x153_31, x153_32, x153_33, x153_36, x153_37, x153_39, x153_40, x153_41, x153_42, x153_45, x153_48, x153_49, x153_50, x153_53, x153_54, x153_55, x153_58, x153_59, x153_66, x153_67, x153_70, x153_72, x153_73, x153_76, x153_77, x153_78, x153_79, x153_80, x153_83, x153_84, x153_85, x153_86, x153_89, x153_93, x153_94, x153_97, x153_98, x153_99, x153_102, x153_103, gk_some, pk_some, qk_some, bnd_v, bnd_n, kl_int, kl_ref, kl_null, kl_un, Nat.reduceAdd, if_true, if_false, gm0, gm1, gm2, gm3, gm4, gm5, gm6, gm7, gm8, gm9, gm10, gm11, gm12, gm13, gm14, gm15, gm16, gm17, gm18, gm19, gm20, gm21, gm22, rvM, e6, I_76, I_add, b, w, I_1, i2]
theorem m153n (hp : 32 ≤ p) (A : Nat → Nat → Int32) (v : Int32) (e9 : 0 < g 9) : rcal 153 [.ref p, .int v] (mput h p g A, r) = some (.inl (some (.int v)), (mput h p g A, r)) := by
  simp only [c153, x153_0, x153_1, x153_4, x153_7, x153_8, x153_9, x153_10, x153_13, x153_15, x153_18, x153_19, x153_21, x153_24, x153_27, x153_28, x153_31, x153_32, x153_33, x153_36, x153_37, x153_39, x153_40, x153_41, x153_42, x153_45, x153_48, x153_49, x153_50, x153_53, x153_54, x153_55, x153_58, x153_59, x153_61, x153_63, x153_66, x153_67, x153_70, x153_72, x153_73, x153_76, x153_77, x153_78, x153_79, x153_80, x153_83, x153_84, x153_85, x153_86, x153_89, x153_92, x153_93, x153_94, x153_97, x153_98, x153_99, x153_102, x153_103, gk_some, pk_some, qk_some, bnd_v, bnd_n, kl_int, kl_ref, kl_null, kl_un, Nat.reduceAdd, if_true, if_false, gm0, gm1, gm2, gm3, gm4, gm5, gm6, gm7, gm8, gm9, gm10, gm11, gm12, gm13, gm14, gm15, gm16, gm17, gm18, gm19, gm20, gm21, gm22, rvM, e9]
theorem m153 (hp : 32 ≤ p) (A : Nat → Nat → Int32) (v : Int32) (e9 : ¬ 0 < g 9) {q : Nat} (hq : q < 8) (e6 : g 6 = I q) : rcal 153 [.ref p, .int v] (mput h p g A, r) = some (.inl (some (.int v)), (mput h p (up g 6 (I (q + 1))) (ua A 5 (cpB q 0 (A 2) (A 5))), r)) := by
  have o1 : ¬ I q = 8 := fun y => by
    have y2 : Z (I q) = 8 := by rw [y]; rfl
    rw [Z_I (by omega)] at y2; omega
  have l := l153b h g r hp hq e6 v 76 0 A rfl
  rw [show I 0 = 0 from rfl] at l
  have w6 := pm6 h g (ua A 5 (cpB q 0 (A 2) (A 5))) r hp (I (q + 1))
  simp only [c153, x153_0, x153_1, x153_4, x153_7, x153_8, x153_9, x153_10, x153_13, x153_15, x153_18, x153_19, x153_21, x153_24, x153_27, x153_28, x153_31, x153_32, x153_33, x153_36, x153_37, x153_39, x153_40, x153_41, x153_42, x153_45, x153_48, x153_49, x153_50, x153_53, x153_54, x153_55, x153_58, x153_59, x153_66, x153_67, x153_70, x153_72, x153_73, x153_76, x153_77, x153_78, x153_79, x153_80, x153_83, x153_84, x153_85, x153_86, x153_89, x153_92, x153_93, x153_94, x153_97, x153_98, x153_99, x153_102, x153_103, gk_some, pk_some, qk_some, bnd_v, bnd_n, kl_int, kl_ref, kl_null, kl_un, Nat.reduceAdd, if_true, if_false, gm0, gm1, gm2, gm3, gm4, gm5, gm6, gm7, gm8, gm9, gm10, gm11, gm12, gm13, gm14, gm15, gm16, gm17, gm18, gm19, gm20, gm21, gm22, rvM, e9, e6, o1, l, I_1, w6]
theorem m153f (hp : 32 ≤ p) (A : Nat → Nat → Int32) (v : Int32) (e9 : ¬ 0 < g 9) (e6 : g 6 = 8) : rcal 153 [.ref p, .int v] (mput h p g A, r) = some (.inl (some (.int v)), (mput h p (up g 6 8) (ua A 5 (cpB 7 0 (A 2) (shA 0 (A 5)))), r)) := by
  have la := l153a h g r hp v 532 0 A rfl
  rw [show I 0 = 0 from rfl] at la
  have w7 := pm6 h g (ua A 5 (shA 0 (A 5))) r hp 7
  have lb := l153b h (up g 6 7) r hp (q := 7) (by decide) (up_eq _ _ _) v 76 0 (ua A 5 (shA 0 (A 5))) rfl
  rw [show I 0 = 0 from rfl, ua_eq, ua_ua, ua_ne A _ (show 2 ≠ 5 by decide)] at lb
  have w6 := pm6 h (up g 6 7) (ua A 5 (cpB 7 0 (A 2) (shA 0 (A 5)))) r hp 8
  rw [up_up] at w6
  have s7 : (8 : Int32) - 1 = 7 := by decide
  have s8 : (7 : Int32) + 1 = 8 := by decide
  simp only [c153, x153_0, x153_1, x153_4, x153_7, x153_8, x153_9, x153_10, x153_13, x153_15, x153_18, x153_19, x153_27, x153_28, x153_31, x153_32, x153_33, x153_36, x153_37, x153_39, x153_40, x153_41, x153_42, x153_45, x153_48, x153_49, x153_50, x153_53, x153_54, x153_55, x153_58, x153_59, x153_66, x153_67, x153_70, x153_72, x153_73, x153_76, x153_77, x153_78, x153_79, x153_80, x153_83, x153_84, x153_85, x153_86, x153_89, x153_92, x153_93, x153_94, x153_97, x153_98, x153_99, x153_102, x153_103, gk_some, pk_some, qk_some, bnd_v, bnd_n, kl_int, kl_ref, kl_null, kl_un, Nat.reduceAdd, if_true, if_false, gm0, gm1, gm2, gm3, gm4, gm5, gm6, gm7, gm8, gm9, gm10, gm11, gm12, gm13, gm14, gm15, gm16, gm17, gm18, gm19, gm20, gm21, gm22, rvM, e9, e6, la, s7, w7, lb, up_eq, s8, w6]
end MUNDO
