/-! one command read: both sides alike -/
def wd (i : Nat) : List Int32 := (List.range' 0 (bg (i + 1) - bg i)).map fun t => lets (bg i + t)
def ag (i : Nat) : List Int32 := match i with
  | 0 => [35, 32, 37]
  | 1 => [35, 32, 35]
  | 2 => [35, 32, 35, 32, 37]
  | _ => [37]
theorem forms7 : forms = [wd 0 ++ ag 0, wd 1 ++ ag 1, wd 2 ++ ag 2, wd 3 ++ ag 3, wd 4 ++ ag 4, wd 5 ++ ag 5, wd 6 ++ ag 6] := by decide +kernel
theorem lets_ck : ∀ k, k < 41 → lets k ≠ 35 ∧ lets k ≠ 37 ∧ lets k ≠ 59 := by decide +kernel
theorem fsg_l {T : Nat → Int32} {n : Nat} {v : Int32} (h1 : v ≠ 35) (h2 : v ≠ 37) (s : PS) : fsg T n v s = (sgn T n v s.1, (if sgn T n v s.1 = true then s.1 + 1 else s.1), s.2) := by
  unfold fsg; rw [if_neg h1, if_neg h2]
theorem flw_l (T : Nat → Int32) (n : Nat) (F : List Int32) (A : Nat → Int32) (a b q : Nat) : ∀ d t, b + t + d ≤ 41 → flw T n ((List.range' t d).map (fun t => lets (b + t)) ++ F) (q + t, A, a) = if lkn T n q b d t = t + d then flw T n F (q + t + d, A, a) else (false, q + lkn T n q b d t, A, a) := by
  intro d
  induction d with
  | zero => intro t _; simp [lkn]
  | succ d ih =>
    intro t ht
    have hl := lets_ck (b + t) (by omega)
    have hle := lkn_le T n q b d (t + 1)
    rw [List.range'_succ, List.map_cons, List.cons_append, flw, fsg_l hl.1 hl.2.1]
    unfold lkn
    by_cases c : q + t < n ∧ T (q + t) = lets (b + t)
    · have e : sgn T n (lets (b + t)) (q + t) = true := by simp [sgn, c.1, c.2]
      have i2 := ih (t + 1) (by omega)
      rw [if_pos c]
      simp only [e, if_true]
      rw [show q + t + 1 = q + (t + 1) by omega, i2, show t + 1 + d = t + (d + 1) by omega, show q + (t + 1) + d = q + t + (d + 1) by omega]
    · have e : sgn T n (lets (b + t)) (q + t) = false := by
        unfold sgn
        by_cases c1 : q + t < n
        · have c2 : ¬ T (q + t) = lets (b + t) := fun z => c ⟨c1, z⟩
          simp [c2]
        · simp [c1]
      rw [if_neg c, if_neg (show ¬ t = t + (d + 1) by omega)]
      simp only [e, Bool.false_eq_true, if_false]
theorem flw_i (T : Nat → Int32) (n q : Nat) (F : List Int32) (A : Nat → Int32) {i : Nat} (hi : i < 7) : flw T n (wd i ++ F) (q, A, 0) = if likN T n q i = bg (i + 1) - bg i then flw T n F (q + (bg (i + 1) - bg i), A, 0) else (false, q + likN T n q i, A, 0) := by
  have hb := bg_le i hi
  have e := flw_l T n F A 0 (bg i) q (bg (i + 1) - bg i) 0 (by omega)
  simp only [Nat.add_zero, Nat.zero_add] at e
  exact e
theorem lkn_all {f : Nat → Int32} {n q b : Nat} : ∀ d t, lkn f n q b d t = t + d → ∀ x, t ≤ x → x < t + d → q + x < n ∧ f (q + x) = lets (b + x) := by
  intro d
  induction d with
  | zero => intro t _ x h1 h2; omega
  | succ d ih =>
    intro t h x h1 h2
    unfold lkn at h
    split at h
    · next c =>
      by_cases e : x = t
      · subst e; exact c
      · exact ih (t + 1) (by omega) x (by omega) (by omega)
    · omega
theorem lkn_stop {f : Nat → Int32} {n q b : Nat} : ∀ d t x, t ≤ x → x < t + d → ¬ (q + x < n ∧ f (q + x) = lets (b + x)) → lkn f n q b d t ≤ x := by
  intro d
  induction d with
  | zero => intro t x h1 h2; omega
  | succ d ih =>
    intro t x h1 h2 hn
    unfold lkn
    split
    · next c =>
      by_cases e : x = t
      · subst e; exact absurd c hn
      · exact ih (t + 1) x (by omega) (by omega) hn
    · exact h1
def dfT (i j : Nat) : Nat := ((List.range 8).find? fun t => decide (lets (bg i + t) ≠ lets (bg j + t))).getD 0
theorem dif_ck : ((List.range 7).all fun i => (List.range 7).all fun j => decide (i = j) || (decide (dfT i j < bg (i + 1) - bg i) && decide (dfT i j < bg (j + 1) - bg j) && decide (lets (bg i + dfT i j) ≠ lets (bg j + dfT i j)))) = true := by decide +kernel
theorem lik_one {T : Nat → Int32} {n q i j : Nat} (hi : i < 7) (hj : j < 7) (hij : i ≠ j) (h : likN T n q i = bg (i + 1) - bg i) : likN T n q j < bg (j + 1) - bg j ∧ likN T n q j < likN T n q i := by
  have z := List.all_eq_true.mp (List.all_eq_true.mp dif_ck i (List.mem_range.mpr hi)) j (List.mem_range.mpr hj)
  simp only [Bool.or_eq_true, Bool.and_eq_true, decide_eq_true_eq] at z
  obtain e | ⟨⟨d1, d2⟩, d3⟩ := z
  · exact absurd e hij
  · have h' : lkn T n q (bg i) (bg (i + 1) - bg i) 0 = 0 + (bg (i + 1) - bg i) := by rw [Nat.zero_add]; exact h
    have a := lkn_all (bg (i + 1) - bg i) 0 h' (dfT i j) (Nat.zero_le _) (by omega)
    have b := lkn_stop (f := T) (n := n) (q := q) (b := bg j) (bg (j + 1) - bg j) 0 (dfT i j) (Nat.zero_le _) (by omega) (fun w => d3 (a.2.symm.trans w.2))
    have b' : likN T n q j ≤ dfT i j := b
    omega
theorem bsL_mx (f : Nat → Int32) (n q : Nat) : ∀ d k b, (∀ i, i < k → likN f n q i ≤ likN f n q b) → ∀ i, i < k + d → likN f n q i ≤ likN f n q (bsL f n q d k b)
  | 0, k, b, h, i, hi => h i hi
  | d + 1, k, b, h, i, hi => by
    unfold bsL
    refine bsL_mx f n q d (k + 1) _ (fun x hx => ?_) i (by omega)
    split
    · by_cases e : x = k
      · subst e; exact Nat.le_refl _
      · have := h x (by omega); omega
    · by_cases e : x = k
      · subst e; omega
      · exact h x (by omega)
theorem bsF_mx (f : Nat → Int32) (n q : Nat) {i : Nat} (hi : i < 7) : likN f n q i ≤ likN f n q (bsF f n q) := bsL_mx f n q 6 1 0 (fun x hx => by rw [show x = 0 by omega]; exact Nat.le_refl _) i (by omega)
theorem bsF_lt (f : Nat → Int32) (n q : Nat) : bsF f n q < 7 := bsL_lt 6 1 0 rfl (by decide)
theorem bsF_full {f : Nat → Int32} {n q i : Nat} (hi : i < 7) (h : likN f n q i = bg (i + 1) - bg i) : bsF f n q = i := by
  by_cases e : bsF f n q = i
  · exact e
  · have m := bsF_mx f n q hi
    have o := lik_one hi (bsF_lt f n q) (Ne.symm e) h
    omega
theorem dgS_t (f : Nat → Int32) (n q : Nat) : dgS f n q true = true := rfl
theorem dgS_f (f : Nat → Int32) (n q : Nat) : dgS f n q false = !dig f n q := by simp [dgS]
theorem exS_f (f : Nat → Int32) (n q : Nat) {v : Int32} (hv : ¬ (-1 : Int32) = v) : exS f n q false v = !sgn f n v q := by
  unfold exS hrS sgn
  by_cases c : q < n
  · simp [c]
  · simp [c, hv]
theorem a1P_t (f : Nat → Int32) (n q : Nat) : a1P f n q true = q := by simp [a1P, exP, dgP, dgS, exS]
theorem a1E_t (f : Nat → Int32) (n q : Nat) : a1E f n q true = true := by simp [a1E, dgS, exS]
theorem a1P_f (f : Nat → Int32) (n q : Nat) : a1P f n q false = if dig f n q = true then (if sgn f n 32 (q + 1) = true then q + 1 + 1 else q + 1) else q := by
  have e := exS_f f n (q + 1) (v := 32) (by decide)
  unfold a1P exP dgP
  rw [dgS_f]
  cases d : dig f n q
  · simp [exS]
  · cases s : sgn f n 32 (q + 1) <;> simp [e, s]
theorem a1E_f (f : Nat → Int32) (n q : Nat) : a1E f n q false = !(dig f n q && sgn f n 32 (q + 1)) := by
  have e := exS_f f n (q + 1) (v := 32) (by decide)
  unfold a1E dgP
  rw [dgS_f]
  cases d : dig f n q
  · simp [exS]
  · simp [e]
theorem nbP_t (f : Nat → Int32) (n q : Nat) : nbP f n q true = q := by simp [nbP, dgS]
theorem nbP_f (f : Nat → Int32) (n q : Nat) : nbP f n q false = if dig f n q = true then (if dig f n (q + 1) = true then q + 2 else q + 1) else q := by
  unfold nbP; rw [dgS_f]; cases dig f n q <;> simp
theorem nbV_f (f : Nat → Int32) (n q : Nat) : nbV f n q false = if dig f n q = true then (if dig f n (q + 1) = true then 10 * (f q - 48) + (f (q + 1) - 48) else f q - 48) else 0 := by
  unfold nbV; rw [dgS_f]; cases dig f n q <;> simp
theorem dgP_t (f : Nat → Int32) (n q : Nat) : dgP f n q true = q := by simp [dgP, dgS]
theorem dgP_f (f : Nat → Int32) (n q : Nat) : dgP f n q false = if dig f n q = true then q + 1 else q := by
  unfold dgP; rw [dgS_f]; cases dig f n q <;> simp
theorem dgV_f (f : Nat → Int32) (n q : Nat) : dgV f n q false = if dig f n q = true then f q - 48 else 0 := by
  unfold dgV; rw [dgS_f]; cases dig f n q <;> simp
theorem nb_bd {f : Nat → Int32} {n q : Nat} (d : dig f n q = true) : q + 1 ≤ nbP f n q false ∧ nbP f n q false ≤ n := by
  have h1 := dig_lt d
  rw [nbP_f, if_pos d]
  split
  · next e => have := dig_lt e; omega
  · omega
theorem tk1 (T : Nat → Int32) (n q a : Nat) (A : Nat → Int32) (ha : a < 3) : fsg T n 35 (q, A, a) = (dig T n q, (if dig T n q = true then q + 1 else q), (if dig T n q = true then up A a (T q - 48) else A), (if dig T n q = true then a + 1 else a)) := by
  unfold fsg
  rw [if_pos rfl]
  cases d : dig T n q <;> simp [tkR, tkN, numR, d, ha]
theorem tk2 (T : Nat → Int32) (n q a : Nat) (A : Nat → Int32) (ha : a < 3) : fsg T n 37 (q, A, a) = (dig T n q, nbP T n q false, (if dig T n q = true then up A a (nbV T n q false) else A), (if dig T n q = true then a + 1 else a)) := by
  unfold fsg
  rw [if_neg (by decide), if_pos rfl, nbP_f, nbV_f]
  cases d : dig T n q
  · simp [tkR, tkN, numR, d]
  · cases d2 : dig T n (q + 1)
    · simp [tkR, tkN, numR, d, d2, ha]
    · simp [tkR, tkN, numR, d, d2, ha, Int32.mul_comm]
theorem fs32 (T : Nat → Int32) (n q a : Nat) (A : Nat → Int32) : fsg T n 32 (q, A, a) = (sgn T n 32 q, (if sgn T n 32 q = true then q + 1 else q), A, a) := fsg_l (by decide) (by decide) _
/-- the numbers that a command uses -/
def agE (b : Nat) (x y z x' y' z' : Int32) : Prop := x = x' ∧ (b < 3 → y = y') ∧ (b = 2 → z = z')
theorem doC_ag {b : Nat} {x y z x' y' z' : Int32} (h : agE b x y z x' y' z') (L : LN) : doC b x y z L = doC b x' y' z' L := by
  obtain ⟨h1, h2, h3⟩ := h
  subst h1
  match b with
  | 0 => show dSt x y L = dSt x y' L; rw [h2 (by decide)]
  | 1 => show dTr x y L = dTr x y' L; rw [h2 (by decide)]
  | 2 => rw [h2 (by decide), h3 rfl]
  | 3 => show dHo 1 x L = dHo 1 x L; exact Eq.refl _
  | 4 => show dHo 0 x L = dHo 0 x L; exact Eq.refl _
  | 5 => show dCa x L = dCa x L; exact Eq.refl _
  | k + 6 => show dWt x L = dWt x L; exact Eq.refl _
theorem agE_tr {b : Nat} {x y z x' y' z' x2 y2 z2 : Int32} (h : agE b x y z x2 y2 z2) (k : agE b x' y' z' x2 y2 z2) : agE b x y z x' y' z' := ⟨h.1.trans k.1.symm, fun q => (h.2.1 q).trans (k.2.1 q).symm, fun q => (h.2.2 q).trans (k.2.2 q).symm⟩
/-- the numbers of command b from q on: does it fail, where to, their values -/
def arS (T : Nat → Int32) (n b q : Nat) : Bool × Nat × Int32 × Int32 × Int32 :=
  if 2 < b then (dgS T n q false, nbP T n q false, nbV T n q false, 0, 0)
  else if b = 0 then (dgS T n (a1P T n q false) (a1E T n q false), nbP T n (a1P T n q false) (a1E T n q false), dgV T n q false, nbV T n (a1P T n q false) (a1E T n q false), 0)
  else if b = 1 then (dgS T n (a1P T n q false) (a1E T n q false), dgP T n (a1P T n q false) (a1E T n q false), dgV T n q false, dgV T n (a1P T n q false) (a1E T n q false), 0)
  else (dgS T n (a1P T n (a1P T n q false) (a1E T n q false)) (a1E T n (a1P T n q false) (a1E T n q false)), nbP T n (a1P T n (a1P T n q false) (a1E T n q false)) (a1E T n (a1P T n q false) (a1E T n q false)), dgV T n q false, dgV T n (a1P T n q false) (a1E T n q false), nbV T n (a1P T n (a1P T n q false) (a1E T n q false)) (a1E T n (a1P T n q false) (a1E T n q false)))
def agK (T : Nat → Int32) (n b q : Nat) (w : Bool × PS) (R : Bool × Nat × Int32 × Int32 × Int32) : Prop := w.1 = !R.1 ∧ w.2.1 = R.2.1 ∧ (R.1 = false → agE b (w.2.2.1 0) (w.2.2.1 1) (w.2.2.1 2) R.2.2.1 R.2.2.2.1 R.2.2.2.2) ∧ (R.1 = false → q + 1 ≤ R.2.1 ∧ R.2.1 ≤ n) ∧ q ≤ R.2.1
theorem ag3 (T : Nat → Int32) (n q : Nat) (A : Nat → Int32) {b : Nat} (h2 : 2 < b) : agK T n b q (flw T n [37] (q, A, 0)) (arS T n b q) := by
  unfold agK arS
  rw [if_pos h2, dgS_f]
  simp only [flw, tk2 T n q 0 A (by decide)]
  cases d : dig T n q
  · have e : nbP T n q false = q := by rw [nbP_f, d]; rfl
    simp [e]
  · have o := nb_bd d
    simp only [if_true, Bool.not_true, Bool.not_false]
    refine ⟨by trivial, by trivial, fun _ => ⟨up_eq _ _ _, fun q => absurd q (by omega), fun q => absurd q (by omega)⟩, fun _ => o, by omega⟩
theorem ag0 (T : Nat → Int32) (n q : Nat) (A : Nat → Int32) : agK T n 0 q (flw T n [35, 32, 37] (q, A, 0)) (arS T n 0 q) := by
  unfold agK arS
  rw [if_neg (by decide), if_pos rfl, a1P_f, a1E_f, dgV_f]
  simp only [flw, tk1 T n q 0 A (by decide)]
  cases d : dig T n q
  · simp [dgS_t, nbP_t]
  · have l1 := dig_lt d
    cases s : sgn T n 32 (q + 1)
    · simp [dgS_t, nbP_t, fs32, s]
    · simp only [if_true, fs32, s, Nat.zero_add, tk2 T n (q + 1 + 1) 1 _ (by decide : 1 < 3), Bool.and_self, Bool.not_true, dgS_f]
      cases d2 : dig T n (q + 1 + 1)
      · have e : nbP T n (q + 1 + 1) false = q + 1 + 1 := by rw [nbP_f, d2]; rfl
        simp only [e, Bool.false_eq_true, if_false, Bool.not_false]
        exact ⟨by trivial, by trivial, (fun z => absurd z (by decide)), (fun z => absurd z (by decide)), by omega⟩
      · have o := nb_bd d2
        simp only [if_true, Bool.not_true, Bool.not_false]
        refine ⟨by trivial, by trivial, fun _ => ⟨?_, fun _ => up_eq _ _ _, fun q => absurd q (by decide)⟩, fun _ => ⟨by omega, o.2⟩, by omega⟩
        rw [up_ne _ _ (by decide), up_eq]
theorem ag1 (T : Nat → Int32) (n q : Nat) (A : Nat → Int32) : agK T n 1 q (flw T n [35, 32, 35] (q, A, 0)) (arS T n 1 q) := by
  unfold agK arS
  rw [if_neg (by decide), if_neg (by decide), if_pos rfl, a1P_f, a1E_f, dgV_f]
  simp only [flw, tk1 T n q 0 A (by decide)]
  cases d : dig T n q
  · simp [dgS_t, dgP_t]
  · have l1 := dig_lt d
    cases s : sgn T n 32 (q + 1)
    · simp [dgS_t, dgP_t, fs32, s]
    · simp only [if_true, fs32, s, Nat.zero_add, tk1 T n (q + 1 + 1) 1 _ (by decide : 1 < 3), Bool.and_self, Bool.not_true, dgS_f, dgP_f, dgV_f]
      cases d2 : dig T n (q + 1 + 1)
      · simp only [Bool.false_eq_true, if_false, Bool.not_false]
        exact ⟨by trivial, by trivial, (fun z => absurd z (by decide)), (fun z => absurd z (by decide)), by omega⟩
      · have o := dig_lt d2
        simp only [if_true, Bool.not_true, Bool.not_false]
        refine ⟨by trivial, by trivial, fun _ => ⟨?_, fun _ => up_eq _ _ _, fun q => absurd q (by decide)⟩, fun _ => ⟨by omega, by omega⟩, by omega⟩
        rw [up_ne _ _ (by decide), up_eq]
theorem ag2 (T : Nat → Int32) (n q : Nat) (A : Nat → Int32) : agK T n 2 q (flw T n [35, 32, 35, 32, 37] (q, A, 0)) (arS T n 2 q) := by
  unfold agK arS
  rw [if_neg (by decide), if_neg (by decide), if_neg (by decide), a1P_f T n q, a1E_f T n q, dgV_f T n q]
  simp only [flw, tk1 T n q 0 A (by decide)]
  cases d : dig T n q
  · simp [dgS_t, a1P_t, a1E_t, nbP_t]
  · have l1 := dig_lt d
    cases s : sgn T n 32 (q + 1)
    · simp [dgS_t, a1P_t, a1E_t, nbP_t, fs32, s]
    · simp only [if_true, fs32, s, Nat.zero_add, tk1 T n (q + 1 + 1) 1 _ (by decide : 1 < 3), Bool.and_self, Bool.not_true, a1P_f, a1E_f, dgV_f]
      cases d2 : dig T n (q + 1 + 1)
      · simp only [Bool.false_eq_true, if_false, Bool.not_false, Bool.false_and, nbP_t, dgS_t, Bool.not_true]
        exact ⟨by trivial, by trivial, (fun z => absurd z (by decide)), (fun z => absurd z (by decide)), by omega⟩
      · have l2 := dig_lt d2
        cases s2 : sgn T n 32 (q + 1 + 1 + 1)
        · simp only [Bool.false_eq_true, if_false, if_true, Bool.not_false, Bool.and_false, nbP_t, dgS_t, Bool.not_true, fs32, s2]
          exact ⟨by trivial, by trivial, (fun z => absurd z (by decide)), (fun z => absurd z (by decide)), by omega⟩
        · simp only [if_true, Bool.and_self, Bool.not_true, fs32, s2, tk2 T n (q + 1 + 1 + 1 + 1) (1 + 1) _ (by decide : 1 + 1 < 3), dgS_f]
          cases d3 : dig T n (q + 1 + 1 + 1 + 1)
          · have e : nbP T n (q + 1 + 1 + 1 + 1) false = q + 1 + 1 + 1 + 1 := by rw [nbP_f, d3]; rfl
            simp only [e, Bool.false_eq_true, if_false, Bool.not_false]
            exact ⟨by trivial, by trivial, (fun z => absurd z (by decide)), (fun z => absurd z (by decide)), by omega⟩
          · have o := nb_bd d3
            simp only [if_true, Bool.not_true, Bool.not_false]
            refine ⟨by trivial, by trivial, fun _ => ⟨?_, fun _ => ?_, fun _ => up_eq _ _ _⟩, fun _ => ⟨by omega, o.2⟩, by omega⟩
            · rw [up_ne _ _ (by decide), up_ne _ _ (by decide), up_eq]
            · rw [up_ne _ _ (by decide), up_eq]
theorem ag_all (T : Nat → Int32) (n q : Nat) (A : Nat → Int32) : ∀ b, agK T n b q (flw T n (ag b) (q, A, 0)) (arS T n b q)
  | 0 => ag0 T n q A
  | 1 => ag1 T n q A
  | 2 => ag2 T n q A
  | k + 3 => ag3 T n q A (by omega)
/-- one command from q on: does it fail, where to, its numbers -/
def spc (T : Nat → Int32) (n q : Nat) : Bool × Nat × Int32 × Int32 × Int32 := if likN T n q (bsF T n q) < bg (bsF T n q + 1) - bg (bsF T n q) then (true, q + likN T n q (bsF T n q), 0, 0, 0) else arS T n (bsF T n q) (q + likN T n q (bsF T n q))
theorem bg_3 : ∀ i, i < 7 → 3 ≤ bg (i + 1) - bg i := by decide
theorem rd_same (T : Nat → Int32) (n q a : Nat) (A : Nat → Int32) : (rdL T n q forms 0 q (q, A, a)).1 = (if (spc T n q).1 = true then none else some (bsF T n q)) ∧ (rdL T n q forms 0 q (q, A, a)).2.1 = (spc T n q).2.1 ∧ ((spc T n q).1 = false → agE (bsF T n q) ((rdL T n q forms 0 q (q, A, a)).2.2.1 0) ((rdL T n q forms 0 q (q, A, a)).2.2.1 1) ((rdL T n q forms 0 q (q, A, a)).2.2.1 2) (spc T n q).2.2.1 (spc T n q).2.2.2.1 (spc T n q).2.2.2.2 ∧ q + 3 ≤ (spc T n q).2.1 ∧ (spc T n q).2.1 ≤ n) := by
  have hb := bsF_lt T n q
  have hle := likN_le T n q (bsF T n q) hb
  have h3 := bg_3 (bsF T n q) hb
  have mx := fun i hi => bsF_mx T n q (i := i) hi
  unfold spc
  by_cases hf : likN T n q (bsF T n q) < bg (bsF T n q + 1) - bg (bsF T n q)
  · rw [if_pos hf]
    have fl : ∀ i, i < 7 → ∀ A, flw T n (wd i ++ ag i) (q, A, 0) = (false, q + likN T n q i, A, 0) := by
      intro i hi A
      rw [flw_i T n q (ag i) A hi, if_neg]
      intro z
      have := bsF_full hi z
      rw [this] at hf
      omega
    rw [forms7]
    simp only [rdL, fl 0 (by decide), fl 1 (by decide), fl 2 (by decide), fl 3 (by decide), fl 4 (by decide), fl 5 (by decide), fl 6 (by decide), Bool.false_eq_true, if_false, if_true]
    refine ⟨by trivial, ?_, (fun z => absurd z (by decide))⟩
    have m0 := mx 0 (by decide)
    have m1 := mx 1 (by decide)
    have m2 := mx 2 (by decide)
    have m3 := mx 3 (by decide)
    have m4 := mx 4 (by decide)
    have m5 := mx 5 (by decide)
    have m6 := mx 6 (by decide)
    generalize bsF T n q = b at *
    rcases (by omega : b = 0 ∨ b = 1 ∨ b = 2 ∨ b = 3 ∨ b = 4 ∨ b = 5 ∨ b = 6) with rfl | rfl | rfl | rfl | rfl | rfl | rfl <;> omega
  · rw [if_neg hf]
    have hfull : likN T n q (bsF T n q) = bg (bsF T n q + 1) - bg (bsF T n q) := by omega
    have k := ag_all T n (q + (bg (bsF T n q + 1) - bg (bsF T n q))) A (bsF T n q)
    have flb : ∀ A, flw T n (wd (bsF T n q) ++ ag (bsF T n q)) (q, A, 0) = flw T n (ag (bsF T n q)) (q + (bg (bsF T n q + 1) - bg (bsF T n q)), A, 0) := by
      intro A
      rw [flw_i T n q _ A hb, if_pos hfull]
    have fl : ∀ i, i < 7 → i ≠ bsF T n q → ∀ A, flw T n (wd i ++ ag i) (q, A, 0) = (false, q + likN T n q i, A, 0) := by
      intro i hi hn A
      rw [flw_i T n q (ag i) A hi, if_neg]
      intro z
      exact hn (bsF_full hi z).symm
    have lo : ∀ i, i < 7 → i ≠ bsF T n q → likN T n q i < bg (bsF T n q + 1) - bg (bsF T n q) := by
      intro i hi hn
      have := lik_one hb hi (Ne.symm hn) hfull
      omega
    rw [hfull, forms7]
    generalize bsF T n q = b at *
    have flA := flb A
    obtain ⟨k1, k2, k3, k4, k5⟩ := k
    generalize arS T n b (q + (bg (b + 1) - bg b)) = R at *
    generalize flw T n (ag b) (q + (bg (b + 1) - bg b), A, 0) = w at *
    obtain ⟨R1, R2, R3⟩ := R
    obtain ⟨w1, w2, w3⟩ := w
    simp only at k1 k2 k3 k4 k5
    subst k2
    have fin : R1 = false → agE b (w3.1 0) (w3.1 1) (w3.1 2) R3.1 R3.2.1 R3.2.2 ∧ q + 3 ≤ w2 ∧ w2 ≤ n := fun z => ⟨k3 z, by have := k4 z; omega, (k4 z).2⟩
    cases R1 with
    | false =>
      simp only [Bool.not_false] at k1
      subst k1
      have fin' := fin rfl
      rcases (by omega : b = 0 ∨ b = 1 ∨ b = 2 ∨ b = 3 ∨ b = 4 ∨ b = 5 ∨ b = 6) with rfl | rfl | rfl | rfl | rfl | rfl | rfl
      · simp +decide only [rdL, fl, flA, if_true, if_false, Bool.false_eq_true]; exact ⟨trivial, trivial, fun _ => fin'⟩
      · simp +decide only [rdL, fl, flA, if_true, if_false, Bool.false_eq_true]; exact ⟨trivial, trivial, fun _ => fin'⟩
      · simp +decide only [rdL, fl, flA, if_true, if_false, Bool.false_eq_true]; exact ⟨trivial, trivial, fun _ => fin'⟩
      · simp +decide only [rdL, fl, flA, if_true, if_false, Bool.false_eq_true]; exact ⟨trivial, trivial, fun _ => fin'⟩
      · simp +decide only [rdL, fl, flA, if_true, if_false, Bool.false_eq_true]; exact ⟨trivial, trivial, fun _ => fin'⟩
      · simp +decide only [rdL, fl, flA, if_true, if_false, Bool.false_eq_true]; exact ⟨trivial, trivial, fun _ => fin'⟩
      · simp +decide only [rdL, fl, flA, if_true, if_false, Bool.false_eq_true]; exact ⟨trivial, trivial, fun _ => fin'⟩
    | true =>
      simp only [Bool.not_true] at k1
      subst k1
      have lo0 := lo 0 (by decide)
      have lo1 := lo 1 (by decide)
      have lo2 := lo 2 (by decide)
      have lo3 := lo 3 (by decide)
      have lo4 := lo 4 (by decide)
      have lo5 := lo 5 (by decide)
      have lo6 := lo 6 (by decide)
      rcases (by omega : b = 0 ∨ b = 1 ∨ b = 2 ∨ b = 3 ∨ b = 4 ∨ b = 5 ∨ b = 6) with rfl | rfl | rfl | rfl | rfl | rfl | rfl
      · simp +decide only [rdL, fl, flA, if_true, if_false, Bool.false_eq_true, true_and]
        exact ⟨by omega, (fun z => absurd z (by decide))⟩
      · simp +decide only [rdL, fl, flA, if_true, if_false, Bool.false_eq_true, true_and]
        exact ⟨by omega, (fun z => absurd z (by decide))⟩
      · simp +decide only [rdL, fl, flA, if_true, if_false, Bool.false_eq_true, true_and]
        exact ⟨by omega, (fun z => absurd z (by decide))⟩
      · simp +decide only [rdL, fl, flA, if_true, if_false, Bool.false_eq_true, true_and]
        exact ⟨by omega, (fun z => absurd z (by decide))⟩
      · simp +decide only [rdL, fl, flA, if_true, if_false, Bool.false_eq_true, true_and]
        exact ⟨by omega, (fun z => absurd z (by decide))⟩
      · simp +decide only [rdL, fl, flA, if_true, if_false, Bool.false_eq_true, true_and]
        exact ⟨by omega, (fun z => absurd z (by decide))⟩
      · simp +decide only [rdL, fl, flA, if_true, if_false, Bool.false_eq_true, true_and]
        exact ⟨by omega, (fun z => absurd z (by decide))⟩
