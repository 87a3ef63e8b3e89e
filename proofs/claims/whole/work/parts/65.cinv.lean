/-! the commands keep the invariant -/
theorem GI_mono {n : Nat} {X X' l : Int} {tk rt : Nat → Int32} {q : LQ} (G : GI n X l tk rt q) (h : X ≤ X') (h' : X' ≤ 31100) : GI n X' l tk rt q := by
  obtain ⟨w, g2, g3, g4, g5, g6, g7, g8, g9, g10⟩ := G
  refine ⟨w, g2, g3, g4, by omega, fun s hs => ?_, g7, g8, g9, g10⟩
  obtain ⟨a1, a2, a3, a4, a5, a6, a7, a8, a9, a10⟩ := g6 s hs
  exact ⟨a1, a2, a3, a4, by omega, a6, a7, a8, a9, a10⟩
/-- the waited minutes are bounded -/
def WB (W : Int) (P : List SL) : Prop := ∀ s, s ∈ P → 0 ≤ Z (s.2.2 10) ∧ Z (s.2.2 10) ≤ W
/-- the positions are sums -/
def PSK (n : Nat) (rt ps : Nat → Int32) : Prop := ∀ k, (k < n ∨ k = 0) → Z (ps k) = pre rt k - k
theorem psK_eq {n : Nat} (h7 : n ≤ 7) {tk rt ps : Nat → Int32} (hr : RK n tk rt) (hp : PSK n rt ps) {x y : Nat} (hx : x < n) (hy : y < n) : betw rt x y = psD ps x y := by
  have p1 := hp x (Or.inl hx)
  have p2 := hp y (Or.inl hy)
  have b1 := pre_le hr.1 x 0 (by omega) (Or.inr hx)
  have b2 := pre_le hr.1 y 0 (by omega) (Or.inr hy)
  have e0 : pre rt 0 = 0 := rfl
  have hs : Z (ps x - ps y) = Z (ps x) - Z (ps y) := Z_sub (by omega) (by omega)
  rw [Z_eq]
  have hd : Z (psD ps x y) = if Z (ps y) ≤ Z (ps x) then Z (ps x) - Z (ps y) else Z (ps y) - Z (ps x) := by
    unfold psD
    have h0 : (0 ≤ ps x - ps y) = (0 ≤ Z (ps x - ps y)) := propext Int32.le_iff_toInt_le
    by_cases c : Z (ps y) ≤ Z (ps x)
    · rw [if_pos c, if_pos (by rw [h0, hs]; omega), hs]
    · rw [if_neg c, if_neg (by rw [h0, hs]; omega)]
      have : Z (0 - (ps x - ps y)) = Z 0 - Z (ps x - ps y) := Z_sub (by rw [hs, Z_0]; omega) (by rw [hs, Z_0]; omega)
      rw [this, hs, Z_0]; omega
  rw [hd]
  unfold betw
  by_cases c : x ≤ y
  · have m := pre_le hr.1 y x c (Or.inr hy)
    rw [show min x y = x by omega, show max x y = y by omega, sumA_Z hr.1 _ _ _ (by omega) h7 (by decide) (by rw [Z_0]; omega), Z_0, show x + (y - x) = y by omega]
    by_cases c2 : Z (ps y) ≤ Z (ps x)
    · rw [if_pos c2]; omega
    · rw [if_neg c2]; omega
  · have m := pre_le hr.1 x y (by omega) (Or.inr hx)
    rw [show min x y = y by omega, show max x y = x by omega, sumA_Z hr.1 _ _ _ (by omega) h7 (by decide) (by rw [Z_0]; omega), Z_0, show y + (x - y) = x by omega]
    by_cases c2 : Z (ps y) ≤ Z (ps x)
    · rw [if_pos c2]; omega
    · rw [if_neg c2]; omega
/-- every station has a track -/
def TKP (n : Nat) (tk : Nat → Int32) : Prop := ∀ k, k < n → 1 ≤ Z (tk k)
/-- a line at rest: time at most X, numbers at most N -/
def FL (X N : Int) (L : LN) : Prop := ∃ n, GI n X ((n - 1 : Nat) : Int) L.2.1 L.2.2.1 (L.1, L.2.2.2.2) ∧ NF L.2.2.2.2 ∧ WB (6 * X) (prs L.2.2.2.2) ∧ PSK n L.2.2.1 L.2.2.2.1 ∧ Z (L.1 6) ≤ N ∧ TKP n L.2.1
theorem FL_mono {X X' N N' : Int} {L : LN} (h : FL X N L) (hX : X ≤ X') (hX' : X' ≤ 31100) (hN : N ≤ N') : FL X' N' L := by
  obtain ⟨n, G, nf, wb, pk, hn⟩ := h
  exact ⟨n, GI_mono G hX hX', nf, fun s hs => by have := wb s hs; omega, pk, by have := hn.1; omega, hn.2⟩
theorem pre_up {rt : Nat → Int32} {j : Nat} {v : Int32} : ∀ k, k ≤ j → pre (up rt j v) k = pre rt k
  | 0, _ => rfl
  | k + 1, h => by
    have := pre_up (rt := rt) (j := j) (v := v) k (by omega)
    show pre (up rt j v) k + Z (up rt j v k) + 1 = pre rt k + Z (rt k) + 1
    rw [this, up_ne _ _ (by omega)]
theorem TI_rt {n m : Nat} {T X l l' N : Int} {rt rt' : Nat → Int32} {t : TR} (h7 : n ≤ 7) (h : TI n T X l N rt t) (hm : n ≤ m) (e : ∀ k, k + 1 < n → rt' k = rt k) (hl : t.1 = 4 → ¬ l' ≤ Z (t.2 7)) (hl0 : t.1 = 4 → ¬ l ≤ Z (t.2 7)) : TI m T X l' N rt' t := by
  obtain ⟨a1, a2, a3, a4, a5, a6, a7, a8, a9, a10⟩ := h
  have n2 := Z_nat a1.1
  have n3 := Z_nat a2.1
  have hb : betw rt' (t.2 2).toNatClampNeg (t.2 3).toNatClampNeg = betw rt (t.2 2).toNatClampNeg (t.2 3).toNatClampNeg := by
    unfold betw
    have : ∀ (c a : Nat) (z : Int32), a + c < n → sumA rt' a c z = sumA rt a c z := by
      intro c
      induction c with
      | zero => intro a z _; rfl
      | succ c ih => intro a z ha; rw [sumA, sumA, e a (by omega), ih (a + 1) _ (by omega)]
    exact this _ _ _ (by omega)
  have hpre : ∀ k, k < n → pre rt' k = pre rt k := by
    intro k
    induction k with
    | zero => intro _; rfl
    | succ k ih =>
      intro hk
      show pre rt' k + Z (rt' k) + 1 = pre rt k + Z (rt k) + 1
      rw [ih (by omega), e k hk]
  have hw : ∀ x : Int, 0 ≤ x → x < n → WW rt' x (Z (t.2 3)) = WW rt x (Z (t.2 3)) := by
    intro x x0 xn
    unfold WW
    rw [hpre _ (by omega), hpre _ (by omega)]
  refine ⟨by omega, by omega, a3, by rw [hb]; exact a4, a5, a6, a7, a8, fun h3 => ?_, fun h4 => ?_⟩
  · obtain ⟨b1, b2⟩ := a9 h3
    refine ⟨b1, ?_⟩
    rw [hw _ (by split at b1 <;> omega) (by split at b1 <;> omega)]; exact b2
  · obtain ⟨b1, b2, b3⟩ := a10 h4
    refine ⟨b1, b2, ?_⟩
    rw [hw _ (by split at b1 <;> omega) (by split at b1 <;> omega), if_neg (hl h4)]
    rw [if_neg (hl0 h4)] at b3; exact b3
theorem TI_sec {n : Nat} {T X l N : Int} {rt : Nat → Int32} {t : TR} (h : TI n T X l N rt t) (h4 : t.1 = 4) : 0 ≤ Z (t.2 7) ∧ Z (t.2 7) + 1 < n := by
  obtain ⟨a1, a2, a3, a4, a5, a6, a7, a8, a9, a10⟩ := h
  obtain ⟨b1, _⟩ := a10 h4
  split at b1 <;> omega
theorem FL_st {X N : Int} {L : LN} (h : FL X N L) (t u : Int32) : FL X N (dSt t u L).2 := by
  obtain ⟨n, G, nf, wb, pk, hn⟩ := h
  obtain ⟨f, tk, rt, ps, S⟩ := L
  unfold dSt
  split
  · exact ⟨n, G, nf, wb, pk, hn⟩
  · next c =>
    split
    · exact ⟨n, G, nf, wb, pk, hn⟩
    · next c7 =>
      obtain ⟨w, g2, g3, g4, g5, g6, g7, g8, g9, g10⟩ := G
      simp only [] at *
      have h7 := g2.2
      have hn7 : n < 7 := by
        have c7' : I n < 7 := by rw [← g2.1]; exact Classical.not_not.mp c7
        rw [show (7 : Int32) = I 7 from rfl, I_lt (by omega) (by decide)] at c7'
        exact c7'
      have t4 : 1 ≤ Z t ∧ Z t ≤ 4 := by
        have h1 : ¬ t < 1 := fun q => c (Or.inl q)
        have h2 : ¬ 4 < t := fun q => c (Or.inr (Or.inl q))
        rw [Z_lt, Z_1] at h1; rw [Z_lt, show Z 4 = 4 from rfl] at h2; omega
      have u30 : 1 ≤ Z u ∧ Z u ≤ 30 := by
        have h1 : ¬ u < 1 := fun q => c (Or.inr (Or.inr (Or.inl q)))
        have h2 : ¬ 30 < u := fun q => c (Or.inr (Or.inr (Or.inr q)))
        rw [Z_lt, Z_1] at h1; rw [Z_lt, show Z 30 = 30 from rfl] at h2; omega
      rw [g2.1, I_nat7 h7]
      have e1 : I n + 1 = I (n + 1) := I_1 n
      have hrt : ∀ k, k + 1 < n → (if 0 < I n then up rt (I n - 1).toNatClampNeg u else rt) k = rt k := by
        intro k hk
        split
        · rw [I_sub1 (by omega), I_nat (by omega), up_ne _ _ (by omega)]
        · rfl
      have hpre : ∀ k, k < n → pre (if 0 < I n then up rt (I n - 1).toNatClampNeg u else rt) k = pre rt k := by
        intro k
        induction k with
        | zero => intro _; rfl
        | succ k ih =>
          intro hk
          show pre _ k + Z ((if 0 < I n then up rt (I n - 1).toNatClampNeg u else rt) k) + 1 = pre rt k + Z (rt k) + 1
          rw [ih (by omega), hrt k hk]
      refine ⟨n + 1, ⟨w, ⟨by simp only [up_eq]; exact e1, by omega⟩, by simpa [up] using g3, ⟨fun k hk => ?_, fun k hk => ?_⟩, by simpa [up] using g5, fun s hs => ?_, g7, g8, fun k hk => ?_, by simpa [TT, up] using g10⟩, nf, wb, fun k hk => ?_, by simpa [up] using hn.1, fun k hk => ?_⟩
      · simp only []
        by_cases e : k + 1 = n
        · have hn0 : 0 < I n := by rw [show (0 : Int32) = I 0 from rfl]; exact (I_lt (by decide) (by omega)).mpr (by omega)
          rw [if_pos hn0, I_sub1 (by omega), I_nat (by omega), show n - 1 = k by omega, up_eq]; exact u30
        · rw [hrt k (by omega)]; exact g4.1 k (by omega)
      · simp only []
        by_cases e : k = n
        · subst e; rw [up_eq]; omega
        · rw [up_ne _ _ e]; exact g4.2 k hk
      · simp only [up_ne _ _ (show 7 ≠ 0 by decide), up_ne _ _ (show 6 ≠ 0 by decide)]
        have := g6 s hs
        refine TI_rt h7 this (by omega) hrt (fun h4 => ?_) (fun h4 => ?_)
        · have := TI_sec this h4; push_cast; omega
        · have := TI_sec this h4; omega
      · simp only []
        by_cases e : k = n
        · subst e
          rw [up_eq]
          have : (prs S).countP (occP (I k)) = 0 := by
            rw [List.countP_eq_zero]
            intro s hs ho
            have hTI := g6 s hs
            obtain ⟨a1, a2, a3, a4, a5, a6, a7, a8, a9, a10⟩ := hTI
            have hzk : Z (I k) = k := Z_I (by omega)
            unfold occP at ho
            simp only [Bool.and_eq_true, decide_eq_true_eq, Bool.or_eq_true] at ho
            obtain ⟨o1, o2⟩ := ho
            rcases o2 with o2 | o2
            · obtain ⟨b1, _⟩ := a9 o2
              rw [o1, hzk] at b1; split at b1 <;> omega
            · obtain ⟨b1, _⟩ := a10 o2.1
              rw [o1, hzk] at b1; split at b1 <;> omega
          rw [this]; omega
        · rw [up_ne _ _ e]; exact g9 k (by omega)
      · simp only []
        by_cases e : k = n
        · subst e
          by_cases hk0 : 0 < k
          · have hn0 : 0 < I k := by rw [show (0 : Int32) = I 0 from rfl]; exact (I_lt (by decide) (by omega)).mpr (by omega)
            rw [if_pos hn0, up_eq, if_pos hn0, I_sub1 (by omega), I_nat (by omega)]
            have h1 := pk (k - 1) (Or.inl (by omega))
            have h2 := pre_le g4.1 (k - 1) 0 (by omega) (by omega)
            have h3 : pre rt 0 = 0 := rfl
            have h4 : pre (up rt (k - 1) u) k = pre rt (k - 1) + Z u + 1 := by
              obtain ⟨j, hj⟩ : ∃ j, k = j + 1 := ⟨k - 1, by omega⟩
              subst hj
              show pre (up rt (j + 1 - 1) u) j + Z (up rt (j + 1 - 1) u j) + 1 = _
              rw [Nat.add_sub_cancel, pre_up j (Nat.le_refl _), up_eq]
            rw [h4, Z_add (by omega) (by omega), h1]; omega
          · have : k = 0 := by omega
            subst this
            have hn0 : ¬ 0 < I 0 := by decide
            rw [if_neg hn0]
            have := pk 0 (Or.inr rfl)
            simpa [pre] using this
        · have hh : (if 0 < I n then up ps n (ps (I n - 1).toNatClampNeg + u) else ps) k = ps k := by
            split
            · rw [up_ne _ _ e]
            · rfl
          rw [hh, pk k (by omega)]
          rcases (by omega : k < n ∨ k = 0) with h | h
          · rw [hpre k h]
          · subst h; rfl
      · simp only []
        by_cases e : k = n
        · subst e; rw [up_eq]; exact t4.1
        · rw [up_ne _ _ e]; exact hn.2 k (by omega)
