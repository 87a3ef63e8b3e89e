/-! the walk along the bytes, and what it shows -/
theorem chkM_lt {j : Nat} (h : j < 281) : chkM j = true := by
  have key : ∀ a n, (List.range' a n).all (chkMg watF) = true → a ≤ j → j < a + n → chkM j = true := by
    intro a n hc h1 h2
    have hh := List.all_eq_true.mp hc j (List.mem_range'_1.mpr ⟨h1, h2⟩)
    rw [watF_eq, chkMg_eq] at hh
    exact hh
  by_cases c0 : j < 20
  · exact key 0 20 chkM_t0 (by omega) (by omega)
  by_cases c20 : j < 40
  · exact key 20 20 chkM_t20 (by omega) (by omega)
  by_cases c40 : j < 60
  · exact key 40 20 chkM_t40 (by omega) (by omega)
  by_cases c60 : j < 80
  · exact key 60 20 chkM_t60 (by omega) (by omega)
  by_cases c80 : j < 100
  · exact key 80 20 chkM_t80 (by omega) (by omega)
  by_cases c100 : j < 120
  · exact key 100 20 chkM_t100 (by omega) (by omega)
  by_cases c120 : j < 140
  · exact key 120 20 chkM_t120 (by omega) (by omega)
  by_cases c140 : j < 160
  · exact key 140 20 chkM_t140 (by omega) (by omega)
  by_cases c160 : j < 180
  · exact key 160 20 chkM_t160 (by omega) (by omega)
  by_cases c180 : j < 200
  · exact key 180 20 chkM_t180 (by omega) (by omega)
  by_cases c200 : j < 220
  · exact key 200 20 chkM_t200 (by omega) (by omega)
  by_cases c220 : j < 240
  · exact key 220 20 chkM_t220 (by omega) (by omega)
  by_cases c240 : j < 260
  · exact key 240 20 chkM_t240 (by omega) (by omega)
  by_cases c260 : j < 280
  · exact key 260 20 chkM_t260 (by omega) (by omega)
  by_cases c280 : j < 281
  · exact key 280 1 chkM_t280 (by omega) (by omega)
  exact absurd h (by omega)
theorem chkF_ok {k pc : Nat} {bs : List UInt8} {e : En} (hb : bs = (mbytes k).data.toList.drop pc) (h : chkF k pc bs e = true) : chkE k pc e = true := by
  unfold chkF at h
  rw [Bool.and_eq_true, Bool.and_eq_true] at h
  obtain ⟨⟨h1, h2⟩, h3⟩ := h
  rw [chkRg_M h2 (fun c => chkM_lt c), watF_eq, watNF_eq, atF_fun, chkRg_eq] at h3
  unfold chkE
  rw [Bool.and_eq_true]
  refine ⟨?_, h3⟩
  obtain ⟨i, a, x, y, z⟩ := e
  cases i <;> first | exact dcF_gen hb h1 | exact h1
/-- n bytes on from pc -/
def wkF (k : Nat) : Nat → List UInt8 → Nat → Bool
  | 0, _, _ => true
  | n + 1, bs, pc => (match mcode k pc with | none => true | some e => chkF k pc bs e) && wkF k n bs.tail (pc + 1)
theorem wkF_ok {k : Nat} : ∀ (n : Nat) (bs : List UInt8) (pc : Nat), bs = (mbytes k).data.toList.drop pc → wkF k n bs pc = true → ∀ q, pc ≤ q → q < pc + n → (match mcode k q with | none => true | some e => chkE k q e) = true
  | 0, _, _, _, _, q, h1, h2 => absurd h2 (by omega)
  | n + 1, bs, pc, hb, h, q, h1, h2 => by
    have h' : ((match mcode k pc with | none => true | some e => chkF k pc bs e) && wkF k n bs.tail (pc + 1)) = true := h
    rw [Bool.and_eq_true] at h'
    by_cases c : q = pc
    · rw [c]
      have h3 := h'.1
      cases hm : mcode k pc with
      | none => rfl
      | some e =>
        rw [hm] at h3
        exact chkF_ok hb h3
    · exact wkF_ok n bs.tail (pc + 1) (by rw [hb, List.tail_drop]) h'.2 q (by omega) (by omega)
/-- a whole method -/
def wkA (k : Nat) : Bool := wkF k (mtop k) (mbytes k).data.toList 0
theorem wkA_ok {k : Nat} (h : wkA k = true) : chkT k = true := by
  unfold chkT
  rw [List.all_eq_true]
  intro pc hp
  exact wkF_ok (mtop k) _ 0 rfl h pc (Nat.zero_le _) (by rw [Nat.zero_add]; exact List.mem_range.mp hp)
theorem wkA_all {a n : Nat} (h : (List.range' a n).all wkA = true) {k : Nat} (h1 : a ≤ k) (h2 : k < a + n) : chkT k = true :=
  wkA_ok (List.all_eq_true.mp h k (List.mem_range'_1.mpr ⟨h1, h2⟩))
