/-! the invariant of a line -/
abbrev Z (x : Int32) : Int := x.toInt
theorem Z_I {n : Nat} (h : n < 2147483648) : Z (I n) = n := Int32.toInt_ofNat_of_lt h
theorem Z_lt {x y : Int32} : x < y ↔ Z x < Z y := Int32.lt_iff_toInt_lt
theorem Z_eq {x y : Int32} : x = y ↔ Z x = Z y := Int32.toInt_inj.symm
theorem Z_add {x y : Int32} (h1 : -2147483648 ≤ Z x + Z y) (h2 : Z x + Z y < 2147483648) : Z (x + y) = Z x + Z y := by
  show (x + y).toInt = _
  unfold Z at h1 h2
  rw [Int32.toInt_add]; exact Int.bmod_eq_of_le (by omega) (by omega)
theorem Z_sub {x y : Int32} (h1 : -2147483648 ≤ Z x - Z y) (h2 : Z x - Z y < 2147483648) : Z (x - y) = Z x - Z y := by
  show (x - y).toInt = _
  unfold Z at h1 h2
  rw [Int32.toInt_sub]; exact Int.bmod_eq_of_le (by omega) (by omega)
theorem Z_0 : Z 0 = 0 := rfl
theorem Z_1 : Z 1 = 1 := rfl
theorem Z_m1 : Z (-1) = -1 := by decide
theorem Z_up (x : Int32) : Z x < 2147483648 := Int32.toInt_lt x
theorem Z_dn (x : Int32) : -2147483648 ≤ Z x := Int32.le_toInt x
theorem Z_nat {x : Int32} (h : 0 ≤ Z x) : (x.toNatClampNeg : Int) = Z x := by
  have := Int32.toNat_toInt x
  rw [← this]; exact Int.toNat_of_nonneg h
theorem Z_of {x : Int32} (h : 0 ≤ Z x) : x = I x.toNatClampNeg := I_of (by rw [Z_lt, Z_0]; omega)
/-- the minutes from station 0 to k, with one for each section -/
def pre (rt : Nat → Int32) : Nat → Int
  | 0 => 0
  | k + 1 => pre rt k + Z (rt k) + 1
/-- the minutes between two stations -/
def WW (rt : Nat → Int32) (x y : Int) : Int := if x ≤ y then pre rt y.toNat - pre rt x.toNat else pre rt x.toNat - pre rt y.toNat
/-- what holds of a train that is there: n stations, time T, the sections below lim have been visited -/
def TI (n : Nat) (T X lim : Int) (N : Int) (rt : Nat → Int32) (t : TR) : Prop :=
  (0 ≤ Z (t.2 2) ∧ Z (t.2 2) < n) ∧ (0 ≤ Z (t.2 3) ∧ Z (t.2 3) < n) ∧ Z (t.2 2) ≠ Z (t.2 3) ∧
  t.2 5 = t.2 4 + betw rt (t.2 2).toNatClampNeg (t.2 3).toNatClampNeg + iabs (t.2 3 - t.2 2) ∧
  (1 ≤ Z (t.2 4) ∧ Z (t.2 4) ≤ T + 99) ∧ True ∧ (1 ≤ Z (t.2 1) ∧ Z (t.2 1) ≤ N) ∧ Z (t.2 11) ≤ T ∧
  (t.1 = 3 → (if Z (t.2 2) < Z (t.2 3) then Z (t.2 2) ≤ Z (t.2 6) ∧ Z (t.2 6) < Z (t.2 3) else Z (t.2 3) < Z (t.2 6) ∧ Z (t.2 6) ≤ Z (t.2 2)) ∧ Z (t.2 5) ≤ Z (t.2 11) + WW rt (Z (t.2 6)) (Z (t.2 3))) ∧
  (t.1 = 4 → (if Z (t.2 2) < Z (t.2 3) then Z (t.2 2) ≤ Z (t.2 7) ∧ Z (t.2 7) < Z (t.2 3) ∧ Z (t.2 6) = Z (t.2 7) + 1 else Z (t.2 3) ≤ Z (t.2 7) ∧ Z (t.2 7) < Z (t.2 2) ∧ Z (t.2 6) = Z (t.2 7)) ∧ (1 ≤ Z (t.2 8) ∧ Z (t.2 8) ≤ 30) ∧ Z (t.2 5) ≤ T + Z (t.2 8) + WW rt (Z (t.2 6)) (Z (t.2 3)) - (if lim ≤ Z (t.2 7) then 1 else 0))
/-- the totals; m trains are there -/
def TT (f : Nat → Int32) (m : Nat) : Prop := 0 ≤ Z (f 8) ∧ Z (f 8) + m ≤ Z (f 6) ∧ Z (f 6) ≤ 512 ∧ 0 ≤ Z (f 10) ∧ Z (f 10) ≤ 31200 * Z (f 8) ∧ 0 ≤ Z (f 11) ∧ Z (f 11) ≤ 31200 ∧ (Z (f 8) = 0 → Z (f 11) = 0) ∧ 0 ≤ Z (f 12) ∧ Z (f 12) ≤ Z (f 8)
def RK (n : Nat) (tk rt : Nat → Int32) : Prop := (∀ k, k + 1 < n → 1 ≤ Z (rt k) ∧ Z (rt k) ≤ 30) ∧ ∀ k, k < 7 → 0 ≤ Z (tk k) ∧ Z (tk k) ≤ 4
/-- the line's invariant -/
def GI (n : Nat) (X lim : Int) (tk rt : Nat → Int32) (q : LQ) : Prop :=
  WS q.2 ∧ (q.1 0 = I n ∧ n ≤ 7) ∧ q.1 5 = I (prs q.2).length ∧ RK n tk rt ∧ (0 ≤ Z (q.1 7) ∧ Z (q.1 7) ≤ X ∧ X ≤ 31100) ∧
  (∀ s, s ∈ prs q.2 → TI n (Z (q.1 7)) X lim (Z (q.1 6)) rt s.2) ∧ SRT (prs q.2) ∧
  (∀ s, s ∈ prs q.2 → ∀ o, o ∈ prs q.2 → s.2.1 = 4 → o.2.1 = 4 → s.2.2 7 = o.2.2 7 → s = o) ∧
  (∀ k, k < n → ((prs q.2).countP (occP (I k)) : Int) ≤ Z (tk k)) ∧ TT q.1 (prs q.2).length
theorem TI_lim {n : Nat} {T X l l' N : Int} {rt : Nat → Int32} {t : TR} (h : TI n T X l N rt t) (hl : l ≤ l') : TI n T X l' N rt t := by
  obtain ⟨a1, a2, a3, a4, a5, a6, a7, a8, a9, a10⟩ := h
  refine ⟨a1, a2, a3, a4, a5, a6, a7, a8, a9, fun h4 => ?_⟩
  obtain ⟨b1, b2, b3⟩ := a10 h4
  refine ⟨b1, b2, ?_⟩
  by_cases c1 : l' ≤ Z (t.2 7)
  · rw [if_pos c1]; rw [if_pos (by omega)] at b3; exact b3
  · rw [if_neg c1]
    by_cases c2 : l ≤ Z (t.2 7)
    · rw [if_pos c2] at b3; omega
    · rw [if_neg c2] at b3; exact b3
/-- sections that are not there bound nothing -/
theorem TI_new {n : Nat} {T X l N : Int} {rt : Nat → Int32} {t : TR} (h : TI n T X l N rt t) (hk : t.1 = 4 → ¬ l ≤ Z (t.2 7)) (l' : Int) (hl : t.1 = 4 → ¬ l' ≤ Z (t.2 7)) : TI n T X l' N rt t := by
  obtain ⟨a1, a2, a3, a4, a5, a6, a7, a8, a9, a10⟩ := h
  refine ⟨a1, a2, a3, a4, a5, a6, a7, a8, a9, fun h4 => ?_⟩
  obtain ⟨b1, b2, b3⟩ := a10 h4
  refine ⟨b1, b2, ?_⟩
  rw [if_neg (hl h4)]; rw [if_neg (hk h4)] at b3; exact b3
theorem pre_le {rt : Nat → Int32} {n : Nat} (hr : ∀ k, k + 1 < n → 1 ≤ Z (rt k) ∧ Z (rt k) ≤ 30) : ∀ y x : Nat, x ≤ y → (y = 0 ∨ y < n) → 2 * ((y : Int) - x) ≤ pre rt y - pre rt x ∧ pre rt y - pre rt x ≤ 31 * ((y : Int) - x) := by
  intro y
  induction y with
  | zero =>
    intro x hx _
    have : x = 0 := by omega
    subst this; simp
  | succ y ih =>
    intro x hx hy
    by_cases e : x = y + 1
    · subst e; omega
    · have h1 := ih x (by omega) (by omega)
      have h2 := hr y (by omega)
      have h3 : pre rt (y + 1) = pre rt y + Z (rt y) + 1 := rfl
      push_cast
      omega
theorem WW_step {rt : Nat → Int32} {x : Int} (hx : 0 ≤ x) {y : Int} (hy : x < y) : WW rt x y = Z (rt x.toNat) + 1 + WW rt (x + 1) y := by
  unfold WW
  rw [if_pos (by omega), if_pos (by omega)]
  have : (x + 1).toNat = x.toNat + 1 := by omega
  rw [this]
  have h3 : pre rt (x.toNat + 1) = pre rt x.toNat + Z (rt x.toNat) + 1 := rfl
  omega
theorem WW_stepd {rt : Nat → Int32} {x : Int} {y : Int} (h0 : 0 ≤ y) (hy : y < x) : WW rt x y = Z (rt (x - 1).toNat) + 1 + WW rt (x - 1) y := by
  unfold WW
  rw [if_neg (by omega)]
  have e1 : x.toNat = (x - 1).toNat + 1 := by omega
  have h3 : pre rt ((x - 1).toNat + 1) = pre rt (x - 1).toNat + Z (rt (x - 1).toNat) + 1 := rfl
  by_cases c : x - 1 ≤ y
  · have : x - 1 = y := by omega
    rw [if_pos c, e1, h3, this]; omega
  · rw [if_neg c, e1, h3]; omega
theorem WW_self (rt : Nat → Int32) (x : Int) : WW rt x x = 0 := by unfold WW; rw [if_pos (by omega)]; omega
theorem sumA_Z {rt : Nat → Int32} {n : Nat} (hr : ∀ k, k + 1 < n → 1 ≤ Z (rt k) ∧ Z (rt k) ≤ 30) : ∀ (c a : Nat) (z : Int32), a + c < n → n ≤ 7 → 0 ≤ Z z → Z z + 30 * c < 100000 → Z (sumA rt a c z) = Z z + (pre rt (a + c) - pre rt a) - c
  | 0, a, z, _, _, _, _ => by simp [sumA]
  | c + 1, a, z, h, h7, hz, hb => by
    have h2 := hr a (by omega)
    have e1 : Z (z + rt a) = Z z + Z (rt a) := Z_add (by omega) (by omega)
    rw [sumA, sumA_Z hr c (a + 1) (z + rt a) (by omega) h7 (by omega) (by push_cast at hb; omega), e1]
    have h3 : pre rt (a + 1) = pre rt a + Z (rt a) + 1 := rfl
    rw [show a + 1 + c = a + (c + 1) by omega]
    push_cast; omega
theorem plan_Z {rt : Nat → Int32} {n : Nat} (h7 : n ≤ 7) (hr : ∀ k, k + 1 < n → 1 ≤ Z (rt k) ∧ Z (rt k) ≤ 30) {x y d : Int32} (hx : 0 ≤ Z x ∧ Z x < n) (hy : 0 ≤ Z y ∧ Z y < n) (hd : 1 ≤ Z d ∧ Z d ≤ 100000) : Z (d + betw rt x.toNatClampNeg y.toNatClampNeg + iabs (y - x)) = Z d + WW rt (Z x) (Z y) := by
  have nx := Z_nat hx.1
  have ny := Z_nat hy.1
  have hs : Z (y - x) = Z y - Z x := Z_sub (by omega) (by omega)
  have hab : Z (iabs (y - x)) = if Z x ≤ Z y then Z y - Z x else Z x - Z y := by
    unfold iabs
    have h0 : (0 ≤ y - x) = (0 ≤ Z (y - x)) := propext Int32.le_iff_toInt_le
    by_cases c : Z x ≤ Z y
    · rw [if_pos c, if_pos (by rw [h0, hs]; omega), hs]
    · rw [if_neg c, if_neg (by rw [h0, hs]; omega)]
      have : Z (0 - (y - x)) = Z 0 - Z (y - x) := Z_sub (by rw [hs, Z_0]; omega) (by rw [hs, Z_0]; omega)
      rw [this, hs, Z_0]; omega
  have hbt : Z (betw rt x.toNatClampNeg y.toNatClampNeg) = WW rt (Z x) (Z y) - (if Z x ≤ Z y then Z y - Z x else Z x - Z y) := by
    unfold betw WW
    by_cases c : Z x ≤ Z y
    · have e1 : min x.toNatClampNeg y.toNatClampNeg = x.toNatClampNeg := by omega
      have e2 : max x.toNatClampNeg y.toNatClampNeg = y.toNatClampNeg := by omega
      rw [e1, e2, sumA_Z hr _ _ _ (by omega) h7 (by decide) (by rw [Z_0]; omega), if_pos c, if_pos c, Z_0]
      rw [show x.toNatClampNeg + (y.toNatClampNeg - x.toNatClampNeg) = y.toNatClampNeg by omega, show (Z x).toNat = x.toNatClampNeg by omega, show (Z y).toNat = y.toNatClampNeg by omega]
      omega
    · have e1 : min x.toNatClampNeg y.toNatClampNeg = y.toNatClampNeg := by omega
      have e2 : max x.toNatClampNeg y.toNatClampNeg = x.toNatClampNeg := by omega
      rw [e1, e2, sumA_Z hr _ _ _ (by omega) h7 (by decide) (by rw [Z_0]; omega), if_neg c, if_neg c, Z_0]
      rw [show y.toNatClampNeg + (x.toNatClampNeg - y.toNatClampNeg) = x.toNatClampNeg by omega, show (Z x).toNat = x.toNatClampNeg by omega, show (Z y).toNat = y.toNatClampNeg by omega]
      omega
  have hw : 0 ≤ WW rt (Z x) (Z y) ∧ WW rt (Z x) (Z y) ≤ 31 * 7 ∧ (if Z x ≤ Z y then Z y - Z x else Z x - Z y) ≤ WW rt (Z x) (Z y) := by
    unfold WW
    by_cases c : Z x ≤ Z y
    · have := pre_le hr (Z y).toNat (Z x).toNat (by omega) (by omega)
      rw [if_pos c, if_pos c]; omega
    · have := pre_le hr (Z x).toNat (Z y).toNat (by omega) (by omega)
      rw [if_neg c, if_neg c]; omega
  generalize betw rt x.toNatClampNeg y.toNatClampNeg = B at hbt ⊢
  generalize iabs (y - x) = C at hab ⊢
  have hC : 0 ≤ Z C ∧ Z C ≤ 7 := by rw [hab]; split <;> omega
  have hB : 0 ≤ Z B ∧ Z B ≤ 300 := by rw [hbt, ← hab] ; rw [← hab] at hw; omega
  have e1 : Z (d + B) = Z d + Z B := Z_add (by omega) (by omega)
  rw [Z_add (by rw [e1]; omega) (by rw [e1]; omega), e1, hbt, ← hab]; omega
