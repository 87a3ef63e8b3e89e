/-! the reference within a minute: its numbers a, who has come c, m of them -/
theorem up_up (f : Nat → Int32) (j : Nat) (v w : Int32) : up (up f j v) j w = up f j w := by
  funext i; simp only [up]; split <;> rfl
def mm (h : PH) (p : Nat) (g : Nat → Int32) (A : Nat → Nat → Int32) (a c : Nat → Int32) (m : Nat) : PH := mput h p (up g 13 (I m)) (ua (ua A 1 a) 7 c)
theorem TR_ix {a : Nat → Int32} {P : List SL} (hT : TRel a P) {k : Nat} {s : SL} (hk : P[k]? = some s) {c : Nat} (hc : c < 9) : a (22 + 9 * k + c) = mt s.2 c := by
  have hl : k < P.length := (List.getElem?_eq_some_iff.mp hk).1
  have hs : P[k] = s := (List.getElem?_eq_some_iff.mp hk).2
  have e := hT.2.2 (P.take k) s (P.drop (k + 1)) (by rw [← hs, ← List.drop_eq_getElem_cons, List.take_append_drop]) c hc
  rwa [List.length_take, Nat.min_eq_left (by omega)] at e
theorem TR_of {a : Nat → Int32} {P : List SL} (h1 : a 1 = I P.length) (h6 : P.length ≤ 6) (hx : ∀ k s, P[k]? = some s → ∀ c, c < 9 → a (22 + 9 * k + c) = mt s.2 c) : TRel a P := by
  refine ⟨h1, h6, fun D s R hP c hc => hx D.length s ?_ c hc⟩
  rw [hP]; simp
/-- one train's nine cells are new -/
theorem TR_set {a a' : Nat → Int32} {D R : List SL} {s : SL} (t : TR) (hT : TRel a (D ++ s :: R)) (h1 : a' 1 = a 1) (ho : ∀ i, (i < 22 + 9 * D.length ∨ 22 + 9 * D.length + 9 ≤ i) → a' i = a i) (hn : ∀ c, c < 9 → a' (22 + 9 * D.length + c) = mt t c) : TRel a' (D ++ (s.1, t) :: R) := by
  refine TR_of (by rw [h1, hT.1]; simp) (by have := hT.2.1; simpa using this) fun k q hk c hc => ?_
  by_cases e : k = D.length
  · subst e
    have : q = (s.1, t) := by simpa using hk.symm
    rw [this]; exact hn c hc
  · rw [ho _ (by omega)]
    refine TR_ix hT ?_ hc
    by_cases e2 : k < D.length
    · rw [List.getElem?_append_left e2] at hk ⊢; exact hk
    · rw [List.getElem?_append_right (by omega)] at hk ⊢
      obtain ⟨j, hj⟩ : ∃ j, k - D.length = j + 1 := ⟨k - D.length - 1, by omega⟩
      rw [hj] at hk ⊢; exact hk
theorem TR_del {a a' : Nat → Int32} {D R : List SL} {s : SL} (hT : TRel a (D ++ s :: R)) (h1 : a' 1 = a 1 - 1) (ho : ∀ i, 22 ≤ i → i < 22 + 9 * D.length → a' i = a i) (hn : ∀ i, 22 + 9 * D.length ≤ i → i < 67 → a' i = a (i + 9)) : TRel a' (D ++ R) := by
  have hl := hT.2.1
  simp at hl
  refine TR_of ?_ (by simp; omega) fun k q hk c hc => ?_
  · rw [h1, hT.1, I_sub1 (by simp; omega)]; simp
  · have hkl : k < (D ++ R).length := (List.getElem?_eq_some_iff.mp hk).1
    simp at hkl
    by_cases e2 : k < D.length
    · rw [ho _ (by omega) (by omega)]
      refine TR_ix hT ?_ hc
      rw [List.getElem?_append_left e2] at hk ⊢; exact hk
    · rw [hn _ (by omega) (by omega), show 22 + 9 * k + c + 9 = 22 + 9 * (k + 1) + c by omega]
      refine TR_ix hT ?_ hc
      rw [List.getElem?_append_right (by omega)] at hk ⊢
      rw [show k + 1 - D.length = (k - D.length) + 1 by omega]; exact hk
section MM
variable (h : PH) {p : Nat} (g : Nat → Int32) (A : Nat → Nat → Int32) (r : Nat × Nat × Nat) (a c : Nat → Int32) (m : Nat)
theorem mm_0 : gfd (mm h p g A a c m, r) 5 0 p = some (.ref (p + 1)) := gm0 ..
theorem mm_12 : gfd (mm h p g A a c m, r) 5 12 p = some (.ref (p + 7)) := gm12 ..
theorem mm_13 : gfd (mm h p g A a c m, r) 5 13 p = some (.int (I m)) := gm13 ..
theorem mm_rv : recv (mm h p g A a c m, r) p 5 = true := rvM ..
theorem mm_rA {n : Nat} (hn : n < 76) : ald (mm h p g A a c m, r) 100 (p + 1) (I n) = some (.int (a n)) := rn1 h _ _ r hn
theorem mm_rC {n : Nat} (hn : n < 12) : ald (mm h p g A a c m, r) 100 (p + 7) (I n) = some (.int (c n)) := rn7 h _ _ r hn
theorem mm_wA (hp : 32 ≤ p) {n : Nat} (hn : n < 76) (v : Int32) : ast (mm h p g A a c m, r) 100 (p + 1) (I n) (.int v) = some (mm h p g A (up a n v) c m, r) := by
  unfold mm
  rw [wn1 h _ _ r hp hn]
  congr 3
  funext j
  simp only [ua]
  by_cases e : j = 1
  · subst e; simp
  · by_cases e2 : j = 7 <;> simp [e, e2]
theorem mm_wC (hp : 32 ≤ p) {n : Nat} (hn : n < 12) (v : Int32) : ast (mm h p g A a c m, r) 100 (p + 7) (I n) (.int v) = some (mm h p g A a (up c n v) m, r) := by
  unfold mm
  rw [wn7 h _ _ r hp hn]
  congr 3
  funext j
  simp only [ua]
  by_cases e2 : j = 7 <;> simp [e2]
theorem mm_p13 (hp : 32 ≤ p) (n : Nat) : pfd (mm h p g A a c m, r) true 5 13 p (.int (I n)) = some (mm h p g A a c n, r) := by
  unfold mm
  rw [pm13 h _ _ r hp, up_up]
theorem mm_l (n : Nat) (hn : n < 9) {i : Int32} (hi : i = I n) : ald (mm h p g A a c m, r) 100 (p + 1) i = some (.int (a n)) := by
  rw [hi, mm_rA h g A r a c m (by omega)]
theorem mm_l0 : ald (mm h p g A a c m, r) 100 (p + 1) 0 = some (.int (a 0)) := mm_l h g A r a c m 0 (by decide) rfl
theorem mm_l1 : ald (mm h p g A a c m, r) 100 (p + 1) 1 = some (.int (a 1)) := mm_l h g A r a c m 1 (by decide) rfl
theorem mm_l3 : ald (mm h p g A a c m, r) 100 (p + 1) 3 = some (.int (a 3)) := mm_l h g A r a c m 3 (by decide) rfl
theorem mm_l4 : ald (mm h p g A a c m, r) 100 (p + 1) 4 = some (.int (a 4)) := mm_l h g A r a c m 4 (by decide) rfl
theorem mm_l5 : ald (mm h p g A a c m, r) 100 (p + 1) 5 = some (.int (a 5)) := mm_l h g A r a c m 5 (by decide) rfl
theorem mm_l6 : ald (mm h p g A a c m, r) 100 (p + 1) 6 = some (.int (a 6)) := mm_l h g A r a c m 6 (by decide) rfl
theorem mm_l7 : ald (mm h p g A a c m, r) 100 (p + 1) 7 = some (.int (a 7)) := mm_l h g A r a c m 7 (by decide) rfl
theorem mm_l8 : ald (mm h p g A a c m, r) 100 (p + 1) 8 = some (.int (a 8)) := mm_l h g A r a c m 8 (by decide) rfl
theorem mm_w (hp : 32 ≤ p) (n : Nat) (hn : n < 9) {i : Int32} (hi : i = I n) (v : Int32) : ast (mm h p g A a c m, r) 100 (p + 1) i (.int v) = some (mm h p g A (up a n v) c m, r) := by
  rw [hi, mm_wA h g A r a c m hp (by omega)]
theorem mm_w1 (hp : 32 ≤ p) (v : Int32) : ast (mm h p g A a c m, r) 100 (p + 1) 1 (.int v) = some (mm h p g A (up a 1 v) c m, r) := mm_w h g A r a c m hp 1 (by decide) rfl v
theorem mm_w3 (hp : 32 ≤ p) (v : Int32) : ast (mm h p g A a c m, r) 100 (p + 1) 3 (.int v) = some (mm h p g A (up a 3 v) c m, r) := mm_w h g A r a c m hp 3 (by decide) rfl v
theorem mm_w4 (hp : 32 ≤ p) (v : Int32) : ast (mm h p g A a c m, r) 100 (p + 1) 4 (.int v) = some (mm h p g A (up a 4 v) c m, r) := mm_w h g A r a c m hp 4 (by decide) rfl v
theorem mm_w5 (hp : 32 ≤ p) (v : Int32) : ast (mm h p g A a c m, r) 100 (p + 1) 5 (.int v) = some (mm h p g A (up a 5 v) c m, r) := mm_w h g A r a c m hp 5 (by decide) rfl v
theorem mm_w6 (hp : 32 ≤ p) (v : Int32) : ast (mm h p g A a c m, r) 100 (p + 1) 6 (.int v) = some (mm h p g A (up a 6 v) c m, r) := mm_w h g A r a c m hp 6 (by decide) rfl v
theorem mm_w7 (hp : 32 ≤ p) (v : Int32) : ast (mm h p g A a c m, r) 100 (p + 1) 7 (.int v) = some (mm h p g A (up a 7 v) c m, r) := mm_w h g A r a c m hp 7 (by decide) rfl v
theorem mm_w8 (hp : 32 ≤ p) (v : Int32) : ast (mm h p g A a c m, r) 100 (p + 1) 8 (.int v) = some (mm h p g A (up a 8 v) c m, r) := mm_w h g A r a c m hp 8 (by decide) rfl v
variable {P : List SL}
theorem n157 (hT : TRel a P) (v : Int32) : rcal 157 [.ref p, .int v] (mm h p g A a c m, r) = some (.inl (some (.int (fidx (numP v) P 0))), (mm h p g A a c m, r)) := m157 h (up g 13 (I m)) (ua (ua A 1 a) 7 c) r hT v
theorem n158 {D R : List SL} {s : SL} (hT : TRel a P) (hP : P = D ++ s :: R) : rcal 158 [.ref p, .int (I D.length)] (mm h p g A a c m, r) = some (.inl (some (.int (wayT s.2))), (mm h p g A a c m, r)) := m158 h (up g 13 (I m)) (ua (ua A 1 a) 7 c) r hT hP
theorem n159 {D R : List SL} {s : SL} (hT : TRel a P) (hP : P = D ++ s :: R) : rcal 159 [.ref p, .int (I D.length)] (mm h p g A a c m, r) = some (.inl (some (.int (ahdT s.2))), (mm h p g A a c m, r)) := m159 h (up g 13 (I m)) (ua (ua A 1 a) 7 c) r hT hP
theorem n160 (hT : TRel a P) (v : Int32) : rcal 160 [.ref p, .int v] (mm h p g A a c m, r) = some (.inl (some (.int (fidx (holP v) P 0))), (mm h p g A a c m, r)) := m160 h (up g 13 (I m)) (ua (ua A 1 a) 7 c) r hT v
theorem n163 (hT : TRel a P) (k : ahdK P) {n : Nat} (hn : n < 7) : rcal 163 [.ref p, .int (I n)] (mm h p g A a c m, r) = some (.inl (some (.int (a (9 + n) - I (P.countP (occP (I n)))))), (mm h p g A a c m, r)) := m163 h (up g 13 (I m)) (ua (ua A 1 a) 7 c) r hT k hn
theorem n165 {D R : List SL} {s : SL} (hT : TRel a P) (hP : P = D ++ s :: R) (k : endK s.2) : rcal 165 [.ref p, .int (I D.length)] (mm h p g A a c m, r) = some (.inl (some (.int (plnM a s.2))), (mm h p g A a c m, r)) := m165 h (up g 13 (I m)) (ua (ua A 1 a) 7 c) r hT hP k
theorem n179 (h12 : m ≤ 12) (v : Int32) : rcal 179 [.ref p, .int v] (mm h p g A a c m, r) = some (.inl (some (.int (b2i (comN c v 0 m false)))), (mm h p g A a c m, r)) := m179 h (up g 13 (I m)) (ua (ua A 1 a) 7 c) r rfl h12 v
theorem nrd {D R : List SL} {s : SL} (hT : TRel a P) (hP : P = D ++ s :: R) : ∀ k, k < 9 → ald (mm h p g A a c m, r) 100 (p + 1) (I (22 + 9 * D.length + k)) = some (.int (mt s.2 k)) := mrd h (up g 13 (I m)) (ua (ua A 1 a) 7 c) r hT hP
theorem nrd0 {D R : List SL} {s : SL} (hT : TRel a P) (hP : P = D ++ s :: R) : ald (mm h p g A a c m, r) 100 (p + 1) (I (22 + 9 * D.length)) = some (.int (s.2.2 1)) := nrd h g A r a c m hT hP 0 (by decide)
def shf (a : Nat → Int32) (i x : Nat) : Nat → Int32 := fun k => if 22 + 9 * i ≤ k ∧ k < x then a (k + 9) else a k
def zrf (a : Nat → Int32) (x : Nat) : Nat → Int32 := fun k => if 67 ≤ k ∧ k < x then 0 else a k
theorem shf_s (a : Nat → Int32) {i x : Nat} (hx : 22 + 9 * i ≤ x) : up (shf a i x) x (shf a i x (x + 9)) = shf a i (x + 1) := by
  funext k
  simp only [up, shf]
  rw [if_neg (by omega : ¬ (22 + 9 * i ≤ x + 9 ∧ x + 9 < x))]
  by_cases e : k = x
  · subst e; rw [if_pos rfl, if_pos ⟨hx, by omega⟩]
  · rw [if_neg e]
    by_cases e2 : 22 + 9 * i ≤ k ∧ k < x
    · rw [if_pos e2, if_pos ⟨e2.1, by omega⟩]
    · rw [if_neg e2, if_neg (by omega)]
theorem zrf_s (a : Nat → Int32) {x : Nat} (hx : 67 ≤ x) : up (zrf a x) x 0 = zrf a (x + 1) := by
  funext k
  simp only [up, zrf]
  by_cases e : k = x
  · subst e; rw [if_pos rfl, if_pos ⟨hx, by omega⟩]
  · rw [if_neg e]
    by_cases e2 : 67 ≤ k ∧ k < x
    · rw [if_pos e2, if_pos ⟨e2.1, by omega⟩]
    · rw [if_neg e2, if_neg (by omega)]
theorem l166a (hp : 32 ≤ p) {i : Nat} (z : Value) : ∀ (n x : Nat), x + n = 67 → 22 + 9 * i ≤ x → rn 166 5 [.ref p, z, .int (I x)] [] (mm h p g A (shf a i x) c m, r) = rn 166 35 [.ref p, kl z, .int 67] [] (mm h p g A (shf a i 67) c m, r) := by
  intro n
  induction n generalizing z with
  | zero =>
    intro x hx _
    have : x = 67 := by omega
    subst this
    rw [x166_5]
    simp only [x166_0, x166_1, x166_4, x166_6, x166_8, x166_11, x166_12, x166_15, x166_16, x166_17, x166_20, x166_21, x166_23, x166_24, x166_25, x166_26, x166_29, x166_32, x166_34, x166_36, x166_38, x166_41, x166_42, x166_45, x166_46, x166_47, x166_48, x166_51, x166_54, x166_55, x166_58, x166_59, x166_60, x166_61, x166_62, x166_63, x166_64, gk_some, pk_some, qk_some, bnd_v, bnd_n, kl_int, kl_ref, kl_null, kl_un, Nat.reduceAdd, if_true, if_false, show ¬ I 67 < 67 by decide]
  | succ n ih =>
    intro x hx h2
    have hlt : I x < 67 := by rw [show (67 : Int32) = I 67 from rfl, I_lt (by omega) (by omega)]; omega
    have hr := mm_rA h g A r (shf a i x) c m (p := p) (n := x + 9) (by omega)
    have hw := mm_wA h g A r (shf a i x) c m hp (n := x) (by omega) (shf a i x (x + 9))
    rw [shf_s a h2] at hw
    have ih' := fun z => ih z (x + 1) (by omega) (by omega)
    have kk : kl (kl z) = kl z := by cases z <;> rfl
    rw [x166_5]
    simp only [x166_0, x166_1, x166_4, x166_6, x166_8, x166_11, x166_12, x166_15, x166_16, x166_17, x166_20, x166_21, x166_23, x166_24, x166_25, x166_26, x166_29, x166_32, x166_34, x166_36, x166_38, x166_41, x166_42, x166_45, x166_46, x166_47, x166_48, x166_51, x166_54, x166_55, x166_58, x166_59, x166_60, x166_61, x166_62, x166_63, x166_64, gk_some, pk_some, qk_some, bnd_v, bnd_n, kl_int, kl_ref, kl_null, kl_un, Nat.reduceAdd, if_true, if_false, mm_0, mm_12, mm_13, mm_rv, mm_l0, mm_l1, mm_l3, mm_l4, mm_l5, mm_l6, mm_l7, mm_l8, hlt, I_1, Ia2, Ia3, Ia4, Ia5, Ia6, Ia7, Ia8, Ia9, Ia10, Ia11, Ia12, Il9, Il16, Il22, Il76, Im9, hr, hw, ih', kk]
theorem l166b (hp : 32 ≤ p) (a0 : Nat → Int32) : ∀ (n x : Nat) (z : Value), x + n = 76 → 67 ≤ x → rn 166 35 [.ref p, z, .int (I x)] [] (mm h p g A (zrf a0 x) c m, r) = some (.inl none, (mm h p g A (up (zrf a0 76) 1 (a0 1 - 1)) c m, r)) := by
  intro n
  induction n with
  | zero =>
    intro x z hx _
    have : x = 76 := by omega
    subst this
    rw [x166_35]
    have e1 : zrf a0 76 1 = a0 1 := by simp [zrf]
    simp only [x166_0, x166_1, x166_4, x166_6, x166_8, x166_11, x166_12, x166_15, x166_16, x166_17, x166_20, x166_21, x166_23, x166_24, x166_25, x166_26, x166_29, x166_32, x166_34, x166_36, x166_38, x166_41, x166_42, x166_45, x166_46, x166_47, x166_48, x166_51, x166_54, x166_55, x166_58, x166_59, x166_60, x166_61, x166_62, x166_63, x166_64, gk_some, pk_some, qk_some, bnd_v, bnd_n, kl_int, kl_ref, kl_null, kl_un, Nat.reduceAdd, if_true, if_false, mm_0, mm_12, mm_13, mm_rv, mm_l0, mm_l1, mm_l3, mm_l4, mm_l5, mm_l6, mm_l7, mm_l8, show ¬ I 76 < 76 by decide, mm_w1 h _ _ _ _ _ _ hp, e1]
  | succ n ih =>
    intro x z hx h2
    have hlt : I x < 76 := by rw [show (76 : Int32) = I 76 from rfl, I_lt (by omega) (by omega)]; omega
    have hw := mm_wA h g A r (zrf a0 x) c m hp (n := x) (by omega) 0
    rw [zrf_s a0 h2] at hw
    have ih' := fun z => ih (x + 1) z (by omega) (by omega)
    rw [x166_35]
    simp only [x166_0, x166_1, x166_4, x166_6, x166_8, x166_11, x166_12, x166_15, x166_16, x166_17, x166_20, x166_21, x166_23, x166_24, x166_25, x166_26, x166_29, x166_32, x166_34, x166_36, x166_38, x166_41, x166_42, x166_45, x166_46, x166_47, x166_48, x166_51, x166_54, x166_55, x166_58, x166_59, x166_60, x166_61, x166_62, x166_63, x166_64, gk_some, pk_some, qk_some, bnd_v, bnd_n, kl_int, kl_ref, kl_null, kl_un, Nat.reduceAdd, if_true, if_false, mm_0, mm_12, mm_13, mm_rv, mm_l0, mm_l1, mm_l3, mm_l4, mm_l5, mm_l6, mm_l7, mm_l8, hlt, I_1, Ia2, Ia3, Ia4, Ia5, Ia6, Ia7, Ia8, Ia9, Ia10, Ia11, Ia12, Il9, Il16, Il22, Il76, Im9, hw, ih']
/-- the reference's numbers without the train at i -/
def lvF (a : Nat → Int32) (i : Nat) : Nat → Int32 := up (zrf (shf a i 67) 76) 1 (a 1 - 1)
theorem n166 (hp : 32 ≤ p) {i : Nat} (hi : i < 6) : rcal 166 [.ref p, .int (I i)] (mm h p g A a c m, r) = some (.inl none, (mm h p g A (lvF a i) c m, r)) := by
  have e0 : shf a i (22 + 9 * i) = a := by
    funext k; simp only [shf]; rw [if_neg (by omega)]
  by_cases h5 : 22 + 9 * i ≤ 67
  · have e1 := l166a h g A r a c m hp (i := i) (.int (I i)) (67 - (22 + 9 * i)) (22 + 9 * i) (by omega) (by omega)
    rw [e0] at e1
    have e2 := l166b h g A r c m hp (shf a i 67) 9 67 (.int (I i)) (by omega) (by omega)
    have e3 : zrf (shf a i 67) 67 = shf a i 67 := by funext k; simp only [zrf]; rw [if_neg (by omega)]
    have e4 : shf a i 67 1 = a 1 := by simp only [shf]; rw [if_neg (by omega)]
    rw [e3, e4, show I 67 = 67 from rfl] at e2
    simp only [c166, x166_0, x166_1, x166_4, gk_some, pk_some, qk_some, bnd_v, bnd_n, kl_int, kl_ref, kl_null, kl_un, Nat.reduceAdd, if_true, if_false, m154, e1, e2, lvF]
  · omega
theorem lv_o {a : Nat → Int32} {i k : Nat} (hk : k < 22 + 9 * i) (h1 : k ≠ 1) (h67 : k < 67) : lvF a i k = a k := by
  unfold lvF
  rw [up_ne _ _ h1]; simp only [zrf, shf]
  rw [if_neg (by omega), if_neg (by omega)]
theorem lv_n {a : Nat → Int32} {i k : Nat} (hk : 22 + 9 * i ≤ k) (h67 : k < 67) : lvF a i k = a (k + 9) := by
  unfold lvF
  rw [up_ne _ _ (by omega)]; simp only [zrf, shf]
  rw [if_neg (by omega), if_pos ⟨hk, h67⟩]
theorem lv_z {a : Nat → Int32} {i k : Nat} (hk : 67 ≤ k) (h76 : k < 76) : lvF a i k = 0 := by
  unfold lvF
  rw [up_ne _ _ (by omega)]; simp only [zrf]
  rw [if_pos ⟨hk, h76⟩]
theorem lv_1 (a : Nat → Int32) (i : Nat) : lvF a i 1 = a 1 - 1 := up_eq _ _ _
theorem TR_lv {a : Nat → Int32} {D R : List SL} {s : SL} (hT : TRel a (D ++ s :: R)) : TRel (lvF a D.length) (D ++ R) := by
  have hl := hT.2.1
  simp at hl
  exact TR_del hT (lv_1 _ _) (fun i h1 h2 => lv_o h2 (by omega) (by omega)) (fun i h1 h2 => lv_n h1 h2)
/-- a train comes -/
def cmF (a : Nat → Int32) (k : Nat) (v : Int32) : Nat → Int32 := up (up (up a (22 + 9 * k + 4) 1) (22 + 9 * k + 5) v) (22 + 9 * k + 6) 0
theorem n180 (hp : 32 ≤ p) {k : Nat} (hk : k < 6) (hm : m < 12) (v : Int32) : rcal 180 [.ref p, .int (I k), .int v] (mm h p g A a c m, r) = some (.inl none, (mm h p g A (cmF a k v) (up c m (a (22 + 9 * k))) (m + 1), r)) := by
  have w := fun a n (hn : n < 76) v => mm_wA h g A r a c m hp hn v
  have e0 : cmF a k v (22 + 9 * k) = a (22 + 9 * k) := by
    unfold cmF
    rw [up_ne _ _ (by omega), up_ne _ _ (by omega), up_ne _ _ (by omega)]
  have hr := mm_rA h g A r (cmF a k v) c m (p := p) (n := 22 + 9 * k) (by omega)
  rw [e0] at hr
  have hw : ∀ x, ast (mm h p g A (cmF a k v) c m, r) 100 (p + 7) (I m) (.int x) = some (mm h p g A (cmF a k v) (up c m x) m, r) := fun x => mm_wC h g A r _ c m hp hm x
  have w1 := w a (22 + 9 * k + 4) (by omega) 1
  have w2 := w (up a (22 + 9 * k + 4) 1) (22 + 9 * k + 5) (by omega) v
  have w3 : ast (mm h p g A (up (up a (22 + 9 * k + 4) 1) (22 + 9 * k + 5) v) c m, r) 100 (p + 1) (I (22 + 9 * k + 6)) (.int 0) = some (mm h p g A (cmF a k v) c m, r) := w _ (22 + 9 * k + 6) (by omega) 0
  simp only [c180, x180_0, x180_1, x180_4, x180_5, x180_8, x180_9, x180_10, x180_11, x180_12, x180_13, x180_16, x180_17, x180_20, x180_21, x180_22, x180_23, x180_24, x180_25, x180_28, x180_29, x180_32, x180_34, x180_35, x180_36, x180_37, x180_38, x180_41, x180_42, x180_45, x180_46, x180_49, x180_50, x180_53, x180_54, x180_55, x180_56, x180_57, x180_60, x180_61, x180_62, x180_65, gk_some, pk_some, qk_some, bnd_v, bnd_n, kl_int, kl_ref, kl_null, kl_un, Nat.reduceAdd, if_true, if_false, mm_0, mm_12, mm_13, mm_rv, mm_l0, mm_l1, mm_l3, mm_l4, mm_l5, mm_l6, mm_l7, mm_l8, m154, I_1, Ia2, Ia3, Ia4, Ia5, Ia6, Ia7, Ia8, Ia9, Ia10, Ia11, Ia12, Il9, Il16, Il22, Il76, Im9, w1, w2, w3, hr, hw, mm_p13 h _ _ _ _ _ _ hp]
theorem TR_cm {a : Nat → Int32} {D R : List SL} {s : SL} (hT : TRel a (D ++ s :: R)) (v : Int32) {t : TR} (h3 : t.1 = 3) (h6 : t.2 6 = v) (ho : ∀ i, i = 1 ∨ i = 2 ∨ i = 3 ∨ i = 4 ∨ i = 9 ∨ i = 10 → t.2 i = s.2.2 i) : TRel (cmF a D.length v) (D ++ (s.1, t) :: R) := by
  refine TR_set t hT ?_ ?_ ?_
  · unfold cmF; rw [up_ne _ _ (by omega), up_ne _ _ (by omega), up_ne _ _ (by omega)]
  · intro i hi
    unfold cmF; rw [up_ne _ _ (by omega), up_ne _ _ (by omega), up_ne _ _ (by omega)]
  · intro k hk
    have base := fun (q : ¬ k = 4 ∧ ¬ k = 5 ∧ ¬ k = 6) => (show cmF a D.length v (22 + 9 * D.length + k) = mt s.2 k by
      unfold cmF; rw [up_ne _ _ (by omega), up_ne _ _ (by omega), up_ne _ _ (by omega)]
      exact hT.2.2 D s R rfl k hk)
    rcases (by omega : k = 0 ∨ k = 1 ∨ k = 2 ∨ k = 3 ∨ k = 4 ∨ k = 5 ∨ k = 6 ∨ k = 7 ∨ k = 8) with rfl | rfl | rfl | rfl | rfl | rfl | rfl | rfl | rfl
    · rw [base (by decide)]; exact (ho 1 (by simp)).symm
    · rw [base (by decide)]; exact (ho 2 (by simp)).symm
    · rw [base (by decide)]; exact (ho 3 (by simp)).symm
    · rw [base (by decide)]; exact (ho 4 (by simp)).symm
    · show up (up (up a (22 + 9 * D.length + 4) 1) (22 + 9 * D.length + 5) v) (22 + 9 * D.length + 6) 0 (22 + 9 * D.length + 4) = whr t
      rw [up_ne _ _ (by omega), up_ne _ _ (by omega), up_eq]; simp [whr, h3]
    · show up (up (up a (22 + 9 * D.length + 4) 1) (22 + 9 * D.length + 5) v) (22 + 9 * D.length + 6) 0 (22 + 9 * D.length + 5) = plc t
      rw [up_ne _ _ (by omega), up_eq]; simp [plc, h3, h6]
    · show up (up (up a (22 + 9 * D.length + 4) 1) (22 + 9 * D.length + 5) v) (22 + 9 * D.length + 6) 0 (22 + 9 * D.length + 6) = lft t
      rw [up_eq]; simp [lft, h3]
    · rw [base (by decide)]; exact (ho 9 (by simp)).symm
    · rw [base (by decide)]; exact (ho 10 (by simp)).symm
end MM
