/-! THE REFERENCE IN THE HEAP: its object, its arrays; p is its address -/
def mO (p : Nat) (g : Nat → Int32) : PO := (5, [.ref (p + 1), .ref (p + 2), .ref (p + 3), .ref (p + 4), .int (g 4), .ref (p + 5), .int (g 6), .int (g 7), .int (g 8), .int (g 9), .ref (p + 6), .int (g 11), .ref (p + 7), .int (g 13), .ref (p + 8), .ref (p + 9), .ref (p + 10), .int (g 17), .int (g 18), .int (g 19), .int (g 20), .ref (p + 11), .int (g 22)])
def letC : List Value := [.int 115, .int 116, .int 97, .int 116, .int 105, .int 111, .int 110, .int 32, .int 116, .int 114, .int 97, .int 99, .int 107, .int 115, .int 32, .int 116, .int 114, .int 97, .int 105, .int 110, .int 32, .int 104, .int 111, .int 108, .int 100, .int 32, .int 103, .int 111, .int 32, .int 99, .int 97, .int 110, .int 99, .int 101, .int 108, .int 32, .int 119, .int 97, .int 105, .int 116, .int 32]
def begC : List Value := [.int 0, .int 8, .int 15, .int 21, .int 26, .int 29, .int 36, .int 41]
def mput (h : PH) (p : Nat) (g : Nat → Int32) (A : Nat → Nat → Int32) : PH := fun b =>
  if b = p then some (mO p g)
  else if b = p + 1 then some (iA 76 (A 1))
  else if b = p + 2 then some (iA 76 (A 2))
  else if b = p + 3 then some (iA 76 (A 3))
  else if b = p + 4 then some (iA 76 (A 4))
  else if b = p + 5 then some (iA 608 (A 5))
  else if b = p + 6 then some (iA 60 (A 6))
  else if b = p + 7 then some (iA 12 (A 7))
  else if b = p + 8 then some (101, letC)
  else if b = p + 9 then some (100, begC)
  else if b = p + 10 then some (iA 244 (A 10))
  else if b = p + 11 then some (iA 120 (A 11)) else h b
def ua (A : Nat → Nat → Int32) (k : Nat) (f : Nat → Int32) : Nat → Nat → Int32 := fun j => if j = k then f else A j
theorem ua_eq (A : Nat → Nat → Int32) (k : Nat) (f : Nat → Int32) : ua A k f k = f := by simp [ua]
theorem ua_ne (A : Nat → Nat → Int32) {k j : Nat} (f : Nat → Int32) (h : j ≠ k) : ua A k f j = A j := by simp [ua, h]
theorem ua_ua (A : Nat → Nat → Int32) (k : Nat) (f f' : Nat → Int32) : ua (ua A k f) k f' = ua A k f' := by
  funext j; simp only [ua]; split <;> rfl
section MPUT
variable (h : PH) (p : Nat) (g : Nat → Int32) (A : Nat → Nat → Int32) (r : Nat × Nat × Nat)
theorem mput_0 : mput h p g A p = some (mO p g) := by simp [mput]
theorem mput_1 : mput h p g A (p + 1) = some (iA 76 (A 1)) := by simp [mput]
theorem mput_2 : mput h p g A (p + 2) = some (iA 76 (A 2)) := by simp [mput]
theorem mput_3 : mput h p g A (p + 3) = some (iA 76 (A 3)) := by simp [mput]
theorem mput_4 : mput h p g A (p + 4) = some (iA 76 (A 4)) := by simp [mput]
theorem mput_5 : mput h p g A (p + 5) = some (iA 608 (A 5)) := by simp [mput]
theorem mput_6 : mput h p g A (p + 6) = some (iA 60 (A 6)) := by simp [mput]
theorem mput_7 : mput h p g A (p + 7) = some (iA 12 (A 7)) := by simp [mput]
theorem mput_8 : mput h p g A (p + 8) = some (101, letC) := by simp [mput]
theorem mput_9 : mput h p g A (p + 9) = some (100, begC) := by simp [mput]
theorem mput_10 : mput h p g A (p + 10) = some (iA 244 (A 10)) := by simp [mput]
theorem mput_11 : mput h p g A (p + 11) = some (iA 120 (A 11)) := by simp [mput]
theorem gm0 : gfd (mput h p g A, r) 5 0 p = some (.ref (p + 1)) := by simp [gfd, mput_0, mO]
theorem gm1 : gfd (mput h p g A, r) 5 1 p = some (.ref (p + 2)) := by simp [gfd, mput_0, mO]
theorem gm2 : gfd (mput h p g A, r) 5 2 p = some (.ref (p + 3)) := by simp [gfd, mput_0, mO]
theorem gm3 : gfd (mput h p g A, r) 5 3 p = some (.ref (p + 4)) := by simp [gfd, mput_0, mO]
theorem gm4 : gfd (mput h p g A, r) 5 4 p = some (.int (g 4)) := by simp [gfd, mput_0, mO]
theorem gm5 : gfd (mput h p g A, r) 5 5 p = some (.ref (p + 5)) := by simp [gfd, mput_0, mO]
theorem gm6 : gfd (mput h p g A, r) 5 6 p = some (.int (g 6)) := by simp [gfd, mput_0, mO]
theorem gm7 : gfd (mput h p g A, r) 5 7 p = some (.int (g 7)) := by simp [gfd, mput_0, mO]
theorem gm8 : gfd (mput h p g A, r) 5 8 p = some (.int (g 8)) := by simp [gfd, mput_0, mO]
theorem gm9 : gfd (mput h p g A, r) 5 9 p = some (.int (g 9)) := by simp [gfd, mput_0, mO]
theorem gm10 : gfd (mput h p g A, r) 5 10 p = some (.ref (p + 6)) := by simp [gfd, mput_0, mO]
theorem gm11 : gfd (mput h p g A, r) 5 11 p = some (.int (g 11)) := by simp [gfd, mput_0, mO]
theorem gm12 : gfd (mput h p g A, r) 5 12 p = some (.ref (p + 7)) := by simp [gfd, mput_0, mO]
theorem gm13 : gfd (mput h p g A, r) 5 13 p = some (.int (g 13)) := by simp [gfd, mput_0, mO]
theorem gm14 : gfd (mput h p g A, r) 5 14 p = some (.ref (p + 8)) := by simp [gfd, mput_0, mO]
theorem gm15 : gfd (mput h p g A, r) 5 15 p = some (.ref (p + 9)) := by simp [gfd, mput_0, mO]
theorem gm16 : gfd (mput h p g A, r) 5 16 p = some (.ref (p + 10)) := by simp [gfd, mput_0, mO]
theorem gm17 : gfd (mput h p g A, r) 5 17 p = some (.int (g 17)) := by simp [gfd, mput_0, mO]
theorem gm18 : gfd (mput h p g A, r) 5 18 p = some (.int (g 18)) := by simp [gfd, mput_0, mO]
theorem gm19 : gfd (mput h p g A, r) 5 19 p = some (.int (g 19)) := by simp [gfd, mput_0, mO]
theorem gm20 : gfd (mput h p g A, r) 5 20 p = some (.int (g 20)) := by simp [gfd, mput_0, mO]
theorem gm21 : gfd (mput h p g A, r) 5 21 p = some (.ref (p + 11)) := by simp [gfd, mput_0, mO]
theorem gm22 : gfd (mput h p g A, r) 5 22 p = some (.int (g 22)) := by simp [gfd, mput_0, mO]
theorem rvM : recv (mput h p g A, r) p 5 = true := by simp [recv, mput_0, mO]
theorem mpu_0 (g' : Nat → Int32) : pu (mput h p g A) p (mO p g') = mput h p g' A := by
  funext b
  simp only [pu, mput]
  by_cases e : b = p
  · rw [if_pos e, if_pos e]
  · rw [if_neg e, if_neg e, if_neg e]
theorem mpu_1 (f : Nat → Int32) : pu (mput h p g A) (p + 1) (iA 76 f) = mput h p g (ua A 1 f) := by
  funext b
  simp only [pu, mput]
  by_cases e : b = p + 1
  · subst e
    rw [if_pos rfl]
    simp [ua]
  · rw [if_neg e]
    simp [ua, e]
theorem mpu_2 (f : Nat → Int32) : pu (mput h p g A) (p + 2) (iA 76 f) = mput h p g (ua A 2 f) := by
  funext b
  simp only [pu, mput]
  by_cases e : b = p + 2
  · subst e
    rw [if_pos rfl]
    simp [ua]
  · rw [if_neg e]
    simp [ua, e]
theorem mpu_3 (f : Nat → Int32) : pu (mput h p g A) (p + 3) (iA 76 f) = mput h p g (ua A 3 f) := by
  funext b
  simp only [pu, mput]
  by_cases e : b = p + 3
  · subst e
    rw [if_pos rfl]
    simp [ua]
  · rw [if_neg e]
    simp [ua, e]
theorem mpu_4 (f : Nat → Int32) : pu (mput h p g A) (p + 4) (iA 76 f) = mput h p g (ua A 4 f) := by
  funext b
  simp only [pu, mput]
  by_cases e : b = p + 4
  · subst e
    rw [if_pos rfl]
    simp [ua]
  · rw [if_neg e]
    simp [ua, e]
theorem mpu_5 (f : Nat → Int32) : pu (mput h p g A) (p + 5) (iA 608 f) = mput h p g (ua A 5 f) := by
  funext b
  simp only [pu, mput]
  by_cases e : b = p + 5
  · subst e
    rw [if_pos rfl]
    simp [ua]
  · rw [if_neg e]
    simp [ua, e]
theorem mpu_6 (f : Nat → Int32) : pu (mput h p g A) (p + 6) (iA 60 f) = mput h p g (ua A 6 f) := by
  funext b
  simp only [pu, mput]
  by_cases e : b = p + 6
  · subst e
    rw [if_pos rfl]
    simp [ua]
  · rw [if_neg e]
    simp [ua, e]
theorem mpu_7 (f : Nat → Int32) : pu (mput h p g A) (p + 7) (iA 12 f) = mput h p g (ua A 7 f) := by
  funext b
  simp only [pu, mput]
  by_cases e : b = p + 7
  · subst e
    rw [if_pos rfl]
    simp [ua]
  · rw [if_neg e]
    simp [ua, e]
theorem mpu_10 (f : Nat → Int32) : pu (mput h p g A) (p + 10) (iA 244 f) = mput h p g (ua A 10 f) := by
  funext b
  simp only [pu, mput]
  by_cases e : b = p + 10
  · subst e
    rw [if_pos rfl]
    simp [ua]
  · rw [if_neg e]
    simp [ua, e]
theorem mpu_11 (f : Nat → Int32) : pu (mput h p g A) (p + 11) (iA 120 f) = mput h p g (ua A 11 f) := by
  funext b
  simp only [pu, mput]
  by_cases e : b = p + 11
  · subst e
    rw [if_pos rfl]
    simp [ua]
  · rw [if_neg e]
    simp [ua, e]
end MPUT
section MPUT2
variable (h : PH) {p : Nat} (g : Nat → Int32) (A : Nat → Nat → Int32) (r : Nat × Nat × Nat)
theorem pm4 (hp : 32 ≤ p) (v : Int32) (hv : fitp 1 (.int v) = true) : pfd (mput h p g A, r) true 5 4 p (.int v) = some (mput h p (up g 4 v) A, r) :=
  pfd_of (mput_0 h p g A) (by decide) hp hv (by simpa [hsu, mO, up] using mpu_0 h p g A (up g 4 v))
theorem pm6 (hp : 32 ≤ p) (v : Int32) : pfd (mput h p g A, r) true 5 6 p (.int v) = some (mput h p (up g 6 v) A, r) :=
  pfd_of (mput_0 h p g A) (by decide) hp rfl (by simpa [hsu, mO, up] using mpu_0 h p g A (up g 6 v))
theorem pm7 (hp : 32 ≤ p) (v : Int32) : pfd (mput h p g A, r) true 5 7 p (.int v) = some (mput h p (up g 7 v) A, r) :=
  pfd_of (mput_0 h p g A) (by decide) hp rfl (by simpa [hsu, mO, up] using mpu_0 h p g A (up g 7 v))
theorem pm8 (hp : 32 ≤ p) (v : Int32) : pfd (mput h p g A, r) true 5 8 p (.int v) = some (mput h p (up g 8 v) A, r) :=
  pfd_of (mput_0 h p g A) (by decide) hp rfl (by simpa [hsu, mO, up] using mpu_0 h p g A (up g 8 v))
theorem pm9 (hp : 32 ≤ p) (v : Int32) : pfd (mput h p g A, r) true 5 9 p (.int v) = some (mput h p (up g 9 v) A, r) :=
  pfd_of (mput_0 h p g A) (by decide) hp rfl (by simpa [hsu, mO, up] using mpu_0 h p g A (up g 9 v))
theorem pm11 (hp : 32 ≤ p) (v : Int32) : pfd (mput h p g A, r) true 5 11 p (.int v) = some (mput h p (up g 11 v) A, r) :=
  pfd_of (mput_0 h p g A) (by decide) hp rfl (by simpa [hsu, mO, up] using mpu_0 h p g A (up g 11 v))
theorem pm13 (hp : 32 ≤ p) (v : Int32) : pfd (mput h p g A, r) true 5 13 p (.int v) = some (mput h p (up g 13 v) A, r) :=
  pfd_of (mput_0 h p g A) (by decide) hp rfl (by simpa [hsu, mO, up] using mpu_0 h p g A (up g 13 v))
theorem pm17 (hp : 32 ≤ p) (v : Int32) : pfd (mput h p g A, r) true 5 17 p (.int v) = some (mput h p (up g 17 v) A, r) :=
  pfd_of (mput_0 h p g A) (by decide) hp rfl (by simpa [hsu, mO, up] using mpu_0 h p g A (up g 17 v))
theorem pm18 (hp : 32 ≤ p) (v : Int32) : pfd (mput h p g A, r) true 5 18 p (.int v) = some (mput h p (up g 18 v) A, r) :=
  pfd_of (mput_0 h p g A) (by decide) hp rfl (by simpa [hsu, mO, up] using mpu_0 h p g A (up g 18 v))
theorem pm19 (hp : 32 ≤ p) (v : Int32) : pfd (mput h p g A, r) true 5 19 p (.int v) = some (mput h p (up g 19 v) A, r) :=
  pfd_of (mput_0 h p g A) (by decide) hp rfl (by simpa [hsu, mO, up] using mpu_0 h p g A (up g 19 v))
theorem pm20 (hp : 32 ≤ p) (v : Int32) (hv : fitp 1 (.int v) = true) : pfd (mput h p g A, r) true 5 20 p (.int v) = some (mput h p (up g 20 v) A, r) :=
  pfd_of (mput_0 h p g A) (by decide) hp hv (by simpa [hsu, mO, up] using mpu_0 h p g A (up g 20 v))
theorem pm22 (hp : 32 ≤ p) (v : Int32) : pfd (mput h p g A, r) true 5 22 p (.int v) = some (mput h p (up g 22 v) A, r) :=
  pfd_of (mput_0 h p g A) (by decide) hp rfl (by simpa [hsu, mO, up] using mpu_0 h p g A (up g 22 v))
theorem pm4_0 (hp : 32 ≤ p) : pfd (mput h p g A, r) true 5 4 p (.int 0) = some (mput h p (up g 4 0) A, r) := pm4 h g A r hp 0 rfl
theorem pm4_1 (hp : 32 ≤ p) : pfd (mput h p g A, r) true 5 4 p (.int 1) = some (mput h p (up g 4 1) A, r) := pm4 h g A r hp 1 rfl
theorem pm20_0 (hp : 32 ≤ p) : pfd (mput h p g A, r) true 5 20 p (.int 0) = some (mput h p (up g 20 0) A, r) := pm20 h g A r hp 0 rfl
theorem pm20_1 (hp : 32 ≤ p) : pfd (mput h p g A, r) true 5 20 p (.int 1) = some (mput h p (up g 20 1) A, r) := pm20 h g A r hp 1 rfl
theorem rm1 {i : Int32} (h0 : ¬ i < 0) (h1 : i.toNatClampNeg < 76) : ald (mput h p g A, r) 100 (p + 1) i = some (.int (A 1 i.toNatClampNeg)) := ald_i (mput_1 h p g A) h0 h1 (by decide)
theorem wm1 (hp : 32 ≤ p) {i : Int32} (h0 : ¬ i < 0) (h1 : i.toNatClampNeg < 76) (v : Int32) : ast (mput h p g A, r) 100 (p + 1) i (.int v) = some (mput h p g (ua A 1 (up (A 1) i.toNatClampNeg v)), r) := by
  rw [ast_i (mput_1 h p g A) (by omega) h0 h1, hsu, mpu_1]
theorem rn1 {n : Nat} (hn : n < 76) : ald (mput h p g A, r) 100 (p + 1) (I n) = some (.int (A 1 n)) := by
  rw [rm1 h g A r (I_nn (by omega)) (by rw [I_nat (by omega)]; exact hn), I_nat (by omega)]
theorem wn1 (hp : 32 ≤ p) {n : Nat} (hn : n < 76) (v : Int32) : ast (mput h p g A, r) 100 (p + 1) (I n) (.int v) = some (mput h p g (ua A 1 (up (A 1) n v)), r) := by
  rw [wm1 h g A r hp (I_nn (by omega)) (by rw [I_nat (by omega)]; exact hn), I_nat (by omega)]
theorem rm2 {i : Int32} (h0 : ¬ i < 0) (h1 : i.toNatClampNeg < 76) : ald (mput h p g A, r) 100 (p + 2) i = some (.int (A 2 i.toNatClampNeg)) := ald_i (mput_2 h p g A) h0 h1 (by decide)
theorem wm2 (hp : 32 ≤ p) {i : Int32} (h0 : ¬ i < 0) (h1 : i.toNatClampNeg < 76) (v : Int32) : ast (mput h p g A, r) 100 (p + 2) i (.int v) = some (mput h p g (ua A 2 (up (A 2) i.toNatClampNeg v)), r) := by
  rw [ast_i (mput_2 h p g A) (by omega) h0 h1, hsu, mpu_2]
theorem rn2 {n : Nat} (hn : n < 76) : ald (mput h p g A, r) 100 (p + 2) (I n) = some (.int (A 2 n)) := by
  rw [rm2 h g A r (I_nn (by omega)) (by rw [I_nat (by omega)]; exact hn), I_nat (by omega)]
theorem wn2 (hp : 32 ≤ p) {n : Nat} (hn : n < 76) (v : Int32) : ast (mput h p g A, r) 100 (p + 2) (I n) (.int v) = some (mput h p g (ua A 2 (up (A 2) n v)), r) := by
  rw [wm2 h g A r hp (I_nn (by omega)) (by rw [I_nat (by omega)]; exact hn), I_nat (by omega)]
theorem rm3 {i : Int32} (h0 : ¬ i < 0) (h1 : i.toNatClampNeg < 76) : ald (mput h p g A, r) 100 (p + 3) i = some (.int (A 3 i.toNatClampNeg)) := ald_i (mput_3 h p g A) h0 h1 (by decide)
theorem wm3 (hp : 32 ≤ p) {i : Int32} (h0 : ¬ i < 0) (h1 : i.toNatClampNeg < 76) (v : Int32) : ast (mput h p g A, r) 100 (p + 3) i (.int v) = some (mput h p g (ua A 3 (up (A 3) i.toNatClampNeg v)), r) := by
  rw [ast_i (mput_3 h p g A) (by omega) h0 h1, hsu, mpu_3]
theorem rn3 {n : Nat} (hn : n < 76) : ald (mput h p g A, r) 100 (p + 3) (I n) = some (.int (A 3 n)) := by
  rw [rm3 h g A r (I_nn (by omega)) (by rw [I_nat (by omega)]; exact hn), I_nat (by omega)]
theorem wn3 (hp : 32 ≤ p) {n : Nat} (hn : n < 76) (v : Int32) : ast (mput h p g A, r) 100 (p + 3) (I n) (.int v) = some (mput h p g (ua A 3 (up (A 3) n v)), r) := by
  rw [wm3 h g A r hp (I_nn (by omega)) (by rw [I_nat (by omega)]; exact hn), I_nat (by omega)]
theorem rm4 {i : Int32} (h0 : ¬ i < 0) (h1 : i.toNatClampNeg < 76) : ald (mput h p g A, r) 100 (p + 4) i = some (.int (A 4 i.toNatClampNeg)) := ald_i (mput_4 h p g A) h0 h1 (by decide)
theorem wm4 (hp : 32 ≤ p) {i : Int32} (h0 : ¬ i < 0) (h1 : i.toNatClampNeg < 76) (v : Int32) : ast (mput h p g A, r) 100 (p + 4) i (.int v) = some (mput h p g (ua A 4 (up (A 4) i.toNatClampNeg v)), r) := by
  rw [ast_i (mput_4 h p g A) (by omega) h0 h1, hsu, mpu_4]
theorem rn4 {n : Nat} (hn : n < 76) : ald (mput h p g A, r) 100 (p + 4) (I n) = some (.int (A 4 n)) := by
  rw [rm4 h g A r (I_nn (by omega)) (by rw [I_nat (by omega)]; exact hn), I_nat (by omega)]
theorem wn4 (hp : 32 ≤ p) {n : Nat} (hn : n < 76) (v : Int32) : ast (mput h p g A, r) 100 (p + 4) (I n) (.int v) = some (mput h p g (ua A 4 (up (A 4) n v)), r) := by
  rw [wm4 h g A r hp (I_nn (by omega)) (by rw [I_nat (by omega)]; exact hn), I_nat (by omega)]
theorem rm5 {i : Int32} (h0 : ¬ i < 0) (h1 : i.toNatClampNeg < 608) : ald (mput h p g A, r) 100 (p + 5) i = some (.int (A 5 i.toNatClampNeg)) := ald_i (mput_5 h p g A) h0 h1 (by decide)
theorem wm5 (hp : 32 ≤ p) {i : Int32} (h0 : ¬ i < 0) (h1 : i.toNatClampNeg < 608) (v : Int32) : ast (mput h p g A, r) 100 (p + 5) i (.int v) = some (mput h p g (ua A 5 (up (A 5) i.toNatClampNeg v)), r) := by
  rw [ast_i (mput_5 h p g A) (by omega) h0 h1, hsu, mpu_5]
theorem rn5 {n : Nat} (hn : n < 608) : ald (mput h p g A, r) 100 (p + 5) (I n) = some (.int (A 5 n)) := by
  rw [rm5 h g A r (I_nn (by omega)) (by rw [I_nat (by omega)]; exact hn), I_nat (by omega)]
theorem wn5 (hp : 32 ≤ p) {n : Nat} (hn : n < 608) (v : Int32) : ast (mput h p g A, r) 100 (p + 5) (I n) (.int v) = some (mput h p g (ua A 5 (up (A 5) n v)), r) := by
  rw [wm5 h g A r hp (I_nn (by omega)) (by rw [I_nat (by omega)]; exact hn), I_nat (by omega)]
theorem rm6 {i : Int32} (h0 : ¬ i < 0) (h1 : i.toNatClampNeg < 60) : ald (mput h p g A, r) 100 (p + 6) i = some (.int (A 6 i.toNatClampNeg)) := ald_i (mput_6 h p g A) h0 h1 (by decide)
theorem wm6 (hp : 32 ≤ p) {i : Int32} (h0 : ¬ i < 0) (h1 : i.toNatClampNeg < 60) (v : Int32) : ast (mput h p g A, r) 100 (p + 6) i (.int v) = some (mput h p g (ua A 6 (up (A 6) i.toNatClampNeg v)), r) := by
  rw [ast_i (mput_6 h p g A) (by omega) h0 h1, hsu, mpu_6]
theorem rn6 {n : Nat} (hn : n < 60) : ald (mput h p g A, r) 100 (p + 6) (I n) = some (.int (A 6 n)) := by
  rw [rm6 h g A r (I_nn (by omega)) (by rw [I_nat (by omega)]; exact hn), I_nat (by omega)]
theorem wn6 (hp : 32 ≤ p) {n : Nat} (hn : n < 60) (v : Int32) : ast (mput h p g A, r) 100 (p + 6) (I n) (.int v) = some (mput h p g (ua A 6 (up (A 6) n v)), r) := by
  rw [wm6 h g A r hp (I_nn (by omega)) (by rw [I_nat (by omega)]; exact hn), I_nat (by omega)]
theorem rm7 {i : Int32} (h0 : ¬ i < 0) (h1 : i.toNatClampNeg < 12) : ald (mput h p g A, r) 100 (p + 7) i = some (.int (A 7 i.toNatClampNeg)) := ald_i (mput_7 h p g A) h0 h1 (by decide)
theorem wm7 (hp : 32 ≤ p) {i : Int32} (h0 : ¬ i < 0) (h1 : i.toNatClampNeg < 12) (v : Int32) : ast (mput h p g A, r) 100 (p + 7) i (.int v) = some (mput h p g (ua A 7 (up (A 7) i.toNatClampNeg v)), r) := by
  rw [ast_i (mput_7 h p g A) (by omega) h0 h1, hsu, mpu_7]
theorem rn7 {n : Nat} (hn : n < 12) : ald (mput h p g A, r) 100 (p + 7) (I n) = some (.int (A 7 n)) := by
  rw [rm7 h g A r (I_nn (by omega)) (by rw [I_nat (by omega)]; exact hn), I_nat (by omega)]
theorem wn7 (hp : 32 ≤ p) {n : Nat} (hn : n < 12) (v : Int32) : ast (mput h p g A, r) 100 (p + 7) (I n) (.int v) = some (mput h p g (ua A 7 (up (A 7) n v)), r) := by
  rw [wm7 h g A r hp (I_nn (by omega)) (by rw [I_nat (by omega)]; exact hn), I_nat (by omega)]
theorem rm10 {i : Int32} (h0 : ¬ i < 0) (h1 : i.toNatClampNeg < 244) : ald (mput h p g A, r) 100 (p + 10) i = some (.int (A 10 i.toNatClampNeg)) := ald_i (mput_10 h p g A) h0 h1 (by decide)
theorem wm10 (hp : 32 ≤ p) {i : Int32} (h0 : ¬ i < 0) (h1 : i.toNatClampNeg < 244) (v : Int32) : ast (mput h p g A, r) 100 (p + 10) i (.int v) = some (mput h p g (ua A 10 (up (A 10) i.toNatClampNeg v)), r) := by
  rw [ast_i (mput_10 h p g A) (by omega) h0 h1, hsu, mpu_10]
theorem rn10 {n : Nat} (hn : n < 244) : ald (mput h p g A, r) 100 (p + 10) (I n) = some (.int (A 10 n)) := by
  rw [rm10 h g A r (I_nn (by omega)) (by rw [I_nat (by omega)]; exact hn), I_nat (by omega)]
theorem wn10 (hp : 32 ≤ p) {n : Nat} (hn : n < 244) (v : Int32) : ast (mput h p g A, r) 100 (p + 10) (I n) (.int v) = some (mput h p g (ua A 10 (up (A 10) n v)), r) := by
  rw [wm10 h g A r hp (I_nn (by omega)) (by rw [I_nat (by omega)]; exact hn), I_nat (by omega)]
theorem rm11 {i : Int32} (h0 : ¬ i < 0) (h1 : i.toNatClampNeg < 120) : ald (mput h p g A, r) 100 (p + 11) i = some (.int (A 11 i.toNatClampNeg)) := ald_i (mput_11 h p g A) h0 h1 (by decide)
theorem wm11 (hp : 32 ≤ p) {i : Int32} (h0 : ¬ i < 0) (h1 : i.toNatClampNeg < 120) (v : Int32) : ast (mput h p g A, r) 100 (p + 11) i (.int v) = some (mput h p g (ua A 11 (up (A 11) i.toNatClampNeg v)), r) := by
  rw [ast_i (mput_11 h p g A) (by omega) h0 h1, hsu, mpu_11]
theorem rn11 {n : Nat} (hn : n < 120) : ald (mput h p g A, r) 100 (p + 11) (I n) = some (.int (A 11 n)) := by
  rw [rm11 h g A r (I_nn (by omega)) (by rw [I_nat (by omega)]; exact hn), I_nat (by omega)]
theorem wn11 (hp : 32 ≤ p) {n : Nat} (hn : n < 120) (v : Int32) : ast (mput h p g A, r) 100 (p + 11) (I n) (.int v) = some (mput h p g (ua A 11 (up (A 11) n v)), r) := by
  rw [wm11 h g A r hp (I_nn (by omega)) (by rw [I_nat (by omega)]; exact hn), I_nat (by omega)]
theorem rl0 : ald (mput h p g A, r) 100 (p + 1) 0 = some (.int (A 1 0)) := rn1 h g A r (n := 0) (by decide)
theorem wl0 (hp : 32 ≤ p) (v : Int32) : ast (mput h p g A, r) 100 (p + 1) 0 (.int v) = some (mput h p g (ua A 1 (up (A 1) 0 v)), r) := wn1 h g A r hp (n := 0) (by decide) v
theorem rl1 : ald (mput h p g A, r) 100 (p + 1) 1 = some (.int (A 1 1)) := rn1 h g A r (n := 1) (by decide)
theorem wl1 (hp : 32 ≤ p) (v : Int32) : ast (mput h p g A, r) 100 (p + 1) 1 (.int v) = some (mput h p g (ua A 1 (up (A 1) 1 v)), r) := wn1 h g A r hp (n := 1) (by decide) v
theorem rl2 : ald (mput h p g A, r) 100 (p + 1) 2 = some (.int (A 1 2)) := rn1 h g A r (n := 2) (by decide)
theorem wl2 (hp : 32 ≤ p) (v : Int32) : ast (mput h p g A, r) 100 (p + 1) 2 (.int v) = some (mput h p g (ua A 1 (up (A 1) 2 v)), r) := wn1 h g A r hp (n := 2) (by decide) v
theorem rl3 : ald (mput h p g A, r) 100 (p + 1) 3 = some (.int (A 1 3)) := rn1 h g A r (n := 3) (by decide)
theorem wl3 (hp : 32 ≤ p) (v : Int32) : ast (mput h p g A, r) 100 (p + 1) 3 (.int v) = some (mput h p g (ua A 1 (up (A 1) 3 v)), r) := wn1 h g A r hp (n := 3) (by decide) v
theorem rl4 : ald (mput h p g A, r) 100 (p + 1) 4 = some (.int (A 1 4)) := rn1 h g A r (n := 4) (by decide)
theorem wl4 (hp : 32 ≤ p) (v : Int32) : ast (mput h p g A, r) 100 (p + 1) 4 (.int v) = some (mput h p g (ua A 1 (up (A 1) 4 v)), r) := wn1 h g A r hp (n := 4) (by decide) v
theorem rl5 : ald (mput h p g A, r) 100 (p + 1) 5 = some (.int (A 1 5)) := rn1 h g A r (n := 5) (by decide)
theorem wl5 (hp : 32 ≤ p) (v : Int32) : ast (mput h p g A, r) 100 (p + 1) 5 (.int v) = some (mput h p g (ua A 1 (up (A 1) 5 v)), r) := wn1 h g A r hp (n := 5) (by decide) v
theorem rl6 : ald (mput h p g A, r) 100 (p + 1) 6 = some (.int (A 1 6)) := rn1 h g A r (n := 6) (by decide)
theorem wl6 (hp : 32 ≤ p) (v : Int32) : ast (mput h p g A, r) 100 (p + 1) 6 (.int v) = some (mput h p g (ua A 1 (up (A 1) 6 v)), r) := wn1 h g A r hp (n := 6) (by decide) v
theorem rl7 : ald (mput h p g A, r) 100 (p + 1) 7 = some (.int (A 1 7)) := rn1 h g A r (n := 7) (by decide)
theorem wl7 (hp : 32 ≤ p) (v : Int32) : ast (mput h p g A, r) 100 (p + 1) 7 (.int v) = some (mput h p g (ua A 1 (up (A 1) 7 v)), r) := wn1 h g A r hp (n := 7) (by decide) v
theorem rl8 : ald (mput h p g A, r) 100 (p + 1) 8 = some (.int (A 1 8)) := rn1 h g A r (n := 8) (by decide)
theorem wl8 (hp : 32 ≤ p) (v : Int32) : ast (mput h p g A, r) 100 (p + 1) 8 (.int v) = some (mput h p g (ua A 1 (up (A 1) 8 v)), r) := wn1 h g A r hp (n := 8) (by decide) v
end MPUT2
theorem Ia2 (a : Nat) : I a + 2 = I (a + 2) := I_add a 2
theorem Ia3 (a : Nat) : I a + 3 = I (a + 3) := I_add a 3
theorem Ia4 (a : Nat) : I a + 4 = I (a + 4) := I_add a 4
theorem Ia5 (a : Nat) : I a + 5 = I (a + 5) := I_add a 5
theorem Ia6 (a : Nat) : I a + 6 = I (a + 6) := I_add a 6
theorem Ia7 (a : Nat) : I a + 7 = I (a + 7) := I_add a 7
theorem Ia8 (a : Nat) : I a + 8 = I (a + 8) := I_add a 8
theorem Ia9 (a : Nat) : I a + 9 = I (a + 9) := I_add a 9
theorem Ia10 (a : Nat) : I a + 10 = I (a + 10) := I_add a 10
theorem Ia11 (a : Nat) : I a + 11 = I (a + 11) := I_add a 11
theorem Ia12 (a : Nat) : I a + 12 = I (a + 12) := I_add a 12
theorem Il9 (a : Nat) : 9 + I a = I (9 + a) := I_add 9 a
theorem Il16 (a : Nat) : 16 + I a = I (16 + a) := I_add 16 a
theorem Il22 (a : Nat) : 22 + I a = I (22 + a) := I_add 22 a
theorem Il76 (a : Nat) : 76 + I a = I (76 + a) := I_add 76 a
theorem Im9 (a : Nat) : 9 * I a = I (9 * a) := (Int32.ofNat_mul 9 a).symm
theorem m154 (k : Nat) (H : HS) : rcal 154 [.int (I k)] H = some (.inl (some (.int (I (22 + 9 * k)))), H) := by
  simp only [c154, x154_0, x154_2, x154_4, x154_5, x154_6, x154_7, gk_some, pk_some, qk_some, bnd_v, bnd_n, kl_int, kl_ref, kl_null, kl_un, Nat.reduceAdd, if_true, if_false, Im9, Il22]
theorem m154z (H : HS) : rcal 154 [.int 0] H = some (.inl (some (.int (I 22))), H) := m154 0 H
