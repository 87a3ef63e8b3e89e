/-! the reference: a command's numbers -/
def gE (g : Nat → Int32) (er : Bool) (q : Nat) : Nat → Int32 := up (up g 20 (b2i er)) 18 (I q)
theorem gE_18 (g : Nat → Int32) (er : Bool) (q : Nat) : gE g er q 18 = I q := up_eq _ _ _
theorem gE_20 (g : Nat → Int32) (er : Bool) (q : Nat) : gE g er q 20 = b2i er := by unfold gE; rw [up_ne _ _ (by decide), up_eq]
theorem gE_o (g : Nat → Int32) (er : Bool) (q : Nat) {k : Nat} (h1 : k ≠ 18) (h2 : k ≠ 20) : gE g er q k = g k := by unfold gE; rw [up_ne _ _ h1, up_ne _ _ h2]
theorem gE_gE (g : Nat → Int32) (er er' : Bool) (q q' : Nat) : up (up (gE g er q) 20 (b2i er')) 18 (I q') = gE g er' q' := up4 g _ _ _ _
def dgP (f : Nat → Int32) (n q : Nat) (er : Bool) : Nat := if dgS f n q er = true then q else q + 1
def dgV (f : Nat → Int32) (n q : Nat) (er : Bool) : Int32 := if dgS f n q er = true then 0 else f q - 48
def exP (f : Nat → Int32) (n q : Nat) (er : Bool) (v : Int32) : Nat := if exS f n q er v = true then q else q + 1
theorem dgP_le {f : Nat → Int32} {n q : Nat} {er : Bool} (hn : n ≤ 60) (hq : q ≤ 60) : dgP f n q er ≤ 60 := by
  unfold dgP
  split
  · exact hq
  · next c =>
    unfold dgS at c
    have : dig f n q = true := by
      cases er <;> simp_all
    have := dig_lt this
    omega
theorem exP_le {f : Nat → Int32} {n q : Nat} {er : Bool} (hn : n ≤ 60) (hq : q ≤ 60) {v : Int32} (hv : ¬ v = -1) : exP f n q er v ≤ 60 := by
  unfold exP
  split
  · exact hq
  · next c =>
    unfold exS hrS at c
    by_cases z : q < n
    · omega
    · exact absurd (by rw [if_neg z]; simp [Ne.symm hv]) c
section MARGS
variable (h : PH) {p : Nat} (g : Nat → Int32) (A : Nat → Nat → Int32) (r : Nat × Nat × Nat)
theorem t226 (hp : 32 ≤ p) {n q : Nat} {er : Bool} (hn : n ≤ 60) (hq : q ≤ 60) (e19 : g 19 = I n) (v : Int32) : rcal 226 [.ref p, .int v] (mput h p (gE g er q) A, r) = some (.inl none, (mput h p (gE g (exS (A 6) n q er v) (exP (A 6) n q er v)) A, r)) := by
  have e := m226 h (gE g er q) A r hp (n := n) (q := q) (er := er) hn hq (gE_18 ..) (by rw [gE_o _ _ _ (by decide) (by decide)]; exact e19) (gE_20 ..) v
  rw [gE_gE] at e
  exact e
theorem t227 (hp : 32 ≤ p) {n q : Nat} {er : Bool} (hn : n ≤ 60) (hq : q ≤ 60) (e19 : g 19 = I n) : rcal 227 [.ref p] (mput h p (gE g er q) A, r) = some (.inl (some (.int (dgV (A 6) n q er))), (mput h p (gE g (dgS (A 6) n q er) (dgP (A 6) n q er)) A, r)) := by
  have e := m227 h (gE g er q) A r hp (n := n) (q := q) (er := er) hn hq (gE_18 ..) (by rw [gE_o _ _ _ (by decide) (by decide)]; exact e19) (gE_20 ..)
  rw [gE_gE] at e
  exact e
theorem t228 (hp : 32 ≤ p) {n q : Nat} {er : Bool} (hn : n ≤ 60) (hq : q ≤ 60) (e19 : g 19 = I n) : rcal 228 [.ref p] (mput h p (gE g er q) A, r) = some (.inl (some (.int (nbV (A 6) n q er))), (mput h p (gE g (dgS (A 6) n q er) (nbP (A 6) n q er)) A, r)) := by
  have e := m228 h (gE g er q) A r hp (n := n) (q := q) (er := er) hn hq (gE_18 ..) (by rw [gE_o _ _ _ (by decide) (by decide)]; exact e19) (gE_20 ..)
  rw [gE_gE] at e
  exact e
theorem m230c (hp : 32 ≤ p) {n q i x : Nat} (h2 : 2 < i) (hi : i < 7) (hx : x < 241) (hn : n ≤ 60) (hq : q ≤ 60) (e19 : g 19 = I n) {er : Bool} : rcal 230 [.ref p, .int (I i), .int (I x)] (mput h p (gE g er q) A, r) = some (.inl none, (mput h p (gE g (dgS (A 6) n q er) (nbP (A 6) n q er)) (ua A 10 (up (A 10) x (nbV (A 6) n q er))), r)) := by
  have a : (2 : Int32) < I i := (I_lt (a := 2) (by decide) (by omega)).mpr h2
  have t := t228 h g A r hp (er := er) hn hq e19
  have w := wn10 h (gE g (dgS (A 6) n q er) (nbP (A 6) n q er)) A r hp (n := x) (by omega) (nbV (A 6) n q er)
  simp only [c230, x230_0, x230_1, x230_2, x230_5, x230_6, x230_9, x230_10, x230_11, x230_14, x230_15, x230_16, x230_17, x230_20, x230_21, x230_22, x230_25, x230_26, x230_27, x230_29, x230_32, x230_33, x230_36, x230_37, x230_38, x230_39, x230_40, x230_43, x230_44, x230_47, x230_54, x230_55, x230_56, x230_57, x230_60, x230_61, x230_63, x230_66, x230_67, x230_70, x230_71, x230_72, x230_73, x230_74, x230_77, x230_78, x230_50, x230_51, gk_some, pk_some, qk_some, bnd_v, bnd_n, kl_int, kl_ref, kl_null, kl_un, Nat.reduceAdd, if_true, if_false, gm0, gm1, gm2, gm3, gm4, gm5, gm6, gm7, gm8, gm9, gm10, gm11, gm12, gm13, gm14, gm15, gm16, gm17, gm18, gm19, gm20, gm21, gm22, rvM, a, t, w]
/-- after the first digit and its space: does it fail, where -/
def a1E (f : Nat → Int32) (n q : Nat) (er : Bool) : Bool := exS f n (dgP f n q er) (dgS f n q er) 32
def a1P (f : Nat → Int32) (n q : Nat) (er : Bool) : Nat := exP f n (dgP f n q er) (dgS f n q er) 32
theorem a1P_le {f : Nat → Int32} {n q : Nat} {er : Bool} (hn : n ≤ 60) (hq : q ≤ 60) : a1P f n q er ≤ 60 := exP_le hn (dgP_le hn hq) (by decide)
theorem m230a (hp : 32 ≤ p) {n q x : Nat} (hx : x < 241) (hn : n ≤ 60) (hq : q ≤ 60) (e19 : g 19 = I n) {er : Bool} : rcal 230 [.ref p, .int 0, .int (I x)] (mput h p (gE g er q) A, r) = some (.inl none, (mput h p (gE g (dgS (A 6) n (a1P (A 6) n q er) (a1E (A 6) n q er)) (nbP (A 6) n (a1P (A 6) n q er) (a1E (A 6) n q er))) (ua A 10 (up (up (A 10) x (dgV (A 6) n q er)) (x + 1) (nbV (A 6) n (a1P (A 6) n q er) (a1E (A 6) n q er)))), r)) := by
  have a : ¬ (2 : Int32) < 0 := by decide
  have b2 : ¬ (0 : Int32) = 2 := by decide
  have t := t227 h g A r hp (er := er) hn hq e19
  have hq1 := dgP_le (f := A 6) (er := er) hn hq
  have w := wn10 h (gE g (dgS (A 6) n q er) (dgP (A 6) n q er)) A r hp (n := x) (by omega) (dgV (A 6) n q er)
  have s := t226 h g (ua A 10 (up (A 10) x (dgV (A 6) n q er))) r hp (er := dgS (A 6) n q er) hn hq1 e19 32
  rw [ua_ne A _ (show 6 ≠ 10 by decide)] at s
  have u := t228 h g (ua A 10 (up (A 10) x (dgV (A 6) n q er))) r hp (er := a1E (A 6) n q er) hn (a1P_le (f := A 6) (q := q) (er := er) hn hq) e19
  rw [ua_ne A _ (show 6 ≠ 10 by decide)] at u
  change rcal 226 [.ref p, .int 32] _ = some (.inl none, (mput h p (gE g (a1E (A 6) n q er) (a1P (A 6) n q er)) _, r)) at s
  have w2 := wn10 h (gE g (dgS (A 6) n (a1P (A 6) n q er) (a1E (A 6) n q er)) (nbP (A 6) n (a1P (A 6) n q er) (a1E (A 6) n q er))) (ua A 10 (up (A 10) x (dgV (A 6) n q er))) r hp (n := x + 1) (by omega) (nbV (A 6) n (a1P (A 6) n q er) (a1E (A 6) n q er))
  rw [ua_eq, ua_ua] at w2
  simp only [c230, x230_0, x230_1, x230_2, x230_5, x230_6, x230_9, x230_10, x230_11, x230_14, x230_15, x230_16, x230_17, x230_20, x230_21, x230_22, x230_25, x230_26, x230_27, x230_29, x230_32, x230_33, x230_36, x230_37, x230_38, x230_39, x230_40, x230_43, x230_44, x230_47, x230_54, x230_55, x230_56, x230_57, x230_60, x230_61, x230_63, x230_66, x230_67, x230_70, x230_71, x230_72, x230_73, x230_74, x230_77, x230_78, x230_50, x230_51, gk_some, pk_some, qk_some, bnd_v, bnd_n, kl_int, kl_ref, kl_null, kl_un, Nat.reduceAdd, if_true, if_false, gm0, gm1, gm2, gm3, gm4, gm5, gm6, gm7, gm8, gm9, gm10, gm11, gm12, gm13, gm14, gm15, gm16, gm17, gm18, gm19, gm20, gm21, gm22, rvM, a, b2, t, w, s, I_1, u, w2]
theorem m230b (hp : 32 ≤ p) {n q x : Nat} (hx : x < 241) (hn : n ≤ 60) (hq : q ≤ 60) (e19 : g 19 = I n) {er : Bool} : rcal 230 [.ref p, .int 1, .int (I x)] (mput h p (gE g er q) A, r) = some (.inl none, (mput h p (gE g (dgS (A 6) n (a1P (A 6) n q er) (a1E (A 6) n q er)) (dgP (A 6) n (a1P (A 6) n q er) (a1E (A 6) n q er))) (ua A 10 (up (up (A 10) x (dgV (A 6) n q er)) (x + 1) (dgV (A 6) n (a1P (A 6) n q er) (a1E (A 6) n q er)))), r)) := by
  have a : ¬ (2 : Int32) < 1 := by decide
  have b2 : ¬ (1 : Int32) = 2 := by decide
  have b0 : ¬ (1 : Int32) = 0 := by decide
  have t := t227 h g A r hp (er := er) hn hq e19
  have hq1 := dgP_le (f := A 6) (er := er) hn hq
  have w := wn10 h (gE g (dgS (A 6) n q er) (dgP (A 6) n q er)) A r hp (n := x) (by omega) (dgV (A 6) n q er)
  have s := t226 h g (ua A 10 (up (A 10) x (dgV (A 6) n q er))) r hp (er := dgS (A 6) n q er) hn hq1 e19 32
  rw [ua_ne A _ (show 6 ≠ 10 by decide)] at s
  have u := t227 h g (ua A 10 (up (A 10) x (dgV (A 6) n q er))) r hp (er := a1E (A 6) n q er) hn (a1P_le (f := A 6) (q := q) (er := er) hn hq) e19
  rw [ua_ne A _ (show 6 ≠ 10 by decide)] at u
  change rcal 226 [.ref p, .int 32] _ = some (.inl none, (mput h p (gE g (a1E (A 6) n q er) (a1P (A 6) n q er)) _, r)) at s
  have w2 := wn10 h (gE g (dgS (A 6) n (a1P (A 6) n q er) (a1E (A 6) n q er)) (dgP (A 6) n (a1P (A 6) n q er) (a1E (A 6) n q er))) (ua A 10 (up (A 10) x (dgV (A 6) n q er))) r hp (n := x + 1) (by omega) (dgV (A 6) n (a1P (A 6) n q er) (a1E (A 6) n q er))
  rw [ua_eq, ua_ua] at w2
  simp only [c230, x230_0, x230_1, x230_2, x230_5, x230_6, x230_9, x230_10, x230_11, x230_14, x230_15, x230_16, x230_17, x230_20, x230_21, x230_22, x230_25, x230_26, x230_27, x230_29, x230_32, x230_33, x230_36, x230_37, x230_38, x230_39, x230_40, x230_43, x230_44, x230_47, x230_54, x230_55, x230_56, x230_57, x230_60, x230_61, x230_63, x230_66, x230_67, x230_70, x230_71, x230_72, x230_73, x230_74, x230_77, x230_78, x230_50, x230_51, gk_some, pk_some, qk_some, bnd_v, bnd_n, kl_int, kl_ref, kl_null, kl_un, Nat.reduceAdd, if_true, if_false, gm0, gm1, gm2, gm3, gm4, gm5, gm6, gm7, gm8, gm9, gm10, gm11, gm12, gm13, gm14, gm15, gm16, gm17, gm18, gm19, gm20, gm21, gm22, rvM, a, b2, b0, t, w, s, I_1, u, w2]
theorem m230t (hp : 32 ≤ p) {n q x q2 q4 : Nat} (hx : x < 241) (hn : n ≤ 60) (hq : q ≤ 60) (e19 : g 19 = I n) {er er2 er4 : Bool} (h2 : q2 = a1P (A 6) n q er) (h2e : er2 = a1E (A 6) n q er) (h4 : q4 = a1P (A 6) n q2 er2) (h4e : er4 = a1E (A 6) n q2 er2) : rcal 230 [.ref p, .int 2, .int (I x)] (mput h p (gE g er q) A, r) = some (.inl none, (mput h p (gE g (dgS (A 6) n q4 er4) (nbP (A 6) n q4 er4)) (ua A 10 (up (up (up (A 10) x (dgV (A 6) n q er)) (x + 1) (dgV (A 6) n q2 er2)) (x + 2) (nbV (A 6) n q4 er4))), r)) := by
  have a : ¬ (2 : Int32) < 2 := by decide
  have b0 : ¬ (2 : Int32) = 0 := by decide
  have l2 : q2 ≤ 60 := by rw [h2]; exact a1P_le hn hq
  have l4 : q4 ≤ 60 := by rw [h4]; exact a1P_le hn l2
  have t := t227 h g A r hp (er := er) hn hq e19
  have hq1 := dgP_le (f := A 6) (er := er) hn hq
  have w := wn10 h (gE g (dgS (A 6) n q er) (dgP (A 6) n q er)) A r hp (n := x) (by omega) (dgV (A 6) n q er)
  have s := t226 h g (ua A 10 (up (A 10) x (dgV (A 6) n q er))) r hp (er := dgS (A 6) n q er) hn hq1 e19 32
  rw [ua_ne A _ (show 6 ≠ 10 by decide)] at s
  change rcal 226 [.ref p, .int 32] _ = some (.inl none, (mput h p (gE g (a1E (A 6) n q er) (a1P (A 6) n q er)) _, r)) at s
  rw [← h2, ← h2e] at s
  have u := t227 h g (ua A 10 (up (A 10) x (dgV (A 6) n q er))) r hp (er := er2) hn l2 e19
  rw [ua_ne A _ (show 6 ≠ 10 by decide)] at u
  have w2 := wn10 h (gE g (dgS (A 6) n q2 er2) (dgP (A 6) n q2 er2)) (ua A 10 (up (A 10) x (dgV (A 6) n q er))) r hp (n := x + 1) (by omega) (dgV (A 6) n q2 er2)
  rw [ua_eq, ua_ua] at w2
  have hq3 := dgP_le (f := A 6) (er := er2) hn l2
  have s2 := t226 h g (ua A 10 (up (up (A 10) x (dgV (A 6) n q er)) (x + 1) (dgV (A 6) n q2 er2))) r hp (er := dgS (A 6) n q2 er2) hn hq3 e19 32
  rw [ua_ne A _ (show 6 ≠ 10 by decide)] at s2
  change rcal 226 [.ref p, .int 32] _ = some (.inl none, (mput h p (gE g (a1E (A 6) n q2 er2) (a1P (A 6) n q2 er2)) _, r)) at s2
  rw [← h4, ← h4e] at s2
  have u2 := t228 h g (ua A 10 (up (up (A 10) x (dgV (A 6) n q er)) (x + 1) (dgV (A 6) n q2 er2))) r hp (er := er4) hn l4 e19
  rw [ua_ne A _ (show 6 ≠ 10 by decide)] at u2
  have w3 := wn10 h (gE g (dgS (A 6) n q4 er4) (nbP (A 6) n q4 er4)) (ua A 10 (up (up (A 10) x (dgV (A 6) n q er)) (x + 1) (dgV (A 6) n q2 er2))) r hp (n := x + 2) (by omega) (nbV (A 6) n q4 er4)
  rw [ua_eq, ua_ua] at w3
  have i2 : I x + 2 = I (x + 2) := I_add x 2
  simp only [c230, x230_0, x230_1, x230_2, x230_5, x230_6, x230_9, x230_10, x230_11, x230_14, x230_15, x230_16, x230_17, x230_20, x230_21, x230_22, x230_25, x230_26, x230_27, x230_29, x230_32, x230_33, x230_36, x230_37, x230_38, x230_39, x230_40, x230_43, x230_44, x230_47, x230_54, x230_55, x230_56, x230_57, x230_60, x230_61, x230_63, x230_66, x230_67, x230_70, x230_71, x230_72, x230_73, x230_74, x230_77, x230_78, x230_50, x230_51, gk_some, pk_some, qk_some, bnd_v, bnd_n, kl_int, kl_ref, kl_null, kl_un, Nat.reduceAdd, if_true, if_false, gm0, gm1, gm2, gm3, gm4, gm5, gm6, gm7, gm8, gm9, gm10, gm11, gm12, gm13, gm14, gm15, gm16, gm17, gm18, gm19, gm20, gm21, gm22, rvM, a, b0, t, w, s, I_1, i2, u, w2, s2, u2, w3]
end MARGS
