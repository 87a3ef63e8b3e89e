/-! the class's output: a StringBuilder at 170 -/
def capN (i : Nat) : Nat := 18 * 2 ^ i - 2
def slN (i : Nat) : Nat := match i with
  | 0 => 0
  | 1 => 34
  | 2 => 104
  | _ => 246
def bAd (i : Nat) : Nat := if i = 0 then 171 else 185 + i
/-- next address, cells, slots, after i growths -/
def rS (c s i : Nat) : Nat × Nat × Nat := (186 + i, c + i, s + slN i)
def bA (n : Nat) (B : Nat → Int32) : PO := (102, (List.range n).map fun k => .int (B k))
def sO (i n : Nat) (x : Int32) : PO := (6, [.ref (bAd i), .int 0, .int x, .int (I n)])
def sput (h : PH) (i n : Nat) (B : Nat → Int32) (x : Int32) : PH := fun b => if b = 170 then some (sO i n x) else if b = bAd i then some (bA (capN i) B) else h b
/-- the rest of the heap is as it was -/
def Fg (h h1 : PH) : Prop := ∀ b, b ≠ 171 → b < 186 → h1 b = h b
theorem Fg_tr {h h1 h2 : PH} (a : Fg h h1) (b : Fg h1 h2) : Fg h h2 := fun x x1 x2 => (b x x1 x2).trans (a x x1 x2)
theorem Fg_rf (h : PH) : Fg h h := fun _ _ _ => rfl
theorem bAd_170 (i : Nat) : bAd i ≠ 170 := by unfold bAd; split <;> omega
theorem bAd_32 (i : Nat) : 32 ≤ bAd i := by unfold bAd; split <;> omega
theorem cap_3 : ∀ i, i ≤ 3 → 16 ≤ capN i ∧ capN i ≤ 142 ∧ (i < 3 → capN (i + 1) = 2 * capN i + 2 ∧ slN (i + 1) = slN i + capN (i + 1)) ∧ (i = 3 → capN i = 142) := by decide
def Eqv (n : Nat) (B f : Nat → Int32) : Prop := ∀ k, k < n → B k = f k
section SB
variable (h : PH) (i n : Nat) (B : Nat → Int32) (x : Int32) (r : Nat × Nat × Nat)
theorem sput_0 : sput h i n B x 170 = some (sO i n x) := by simp [sput]
theorem sput_1 : sput h i n B x (bAd i) = some (bA (capN i) B) := by simp [sput, bAd_170]
theorem sput_o {b : Nat} (h1 : b ≠ 170) (h2 : b ≠ bAd i) : sput h i n B x b = h b := by simp [sput, h1, h2]
theorem spu_0 (n' : Nat) (x' : Int32) : pu (sput h i n B x) 170 (sO i n' x') = sput h i n' B x' := by
  funext b
  simp only [pu, sput]
  by_cases e : b = 170
  · rw [if_pos e, if_pos e]
  · rw [if_neg e, if_neg e, if_neg e]
theorem spu_1 (B' : Nat → Int32) : pu (sput h i n B x) (bAd i) (bA (capN i) B') = sput h i n B' x := by
  funext b
  simp only [pu, sput]
  by_cases e : b = bAd i
  · subst e; simp [bAd_170]
  · simp [e]
theorem gs0 : gfd (sput h i n B x, r) 6 0 170 = some (.ref (bAd i)) := gf_of (sput_0 h i n B x) r 0
theorem gs1 : gfd (sput h i n B x, r) 6 1 170 = some (.int 0) := gf_of (sput_0 h i n B x) r 1
theorem gs3 : gfd (sput h i n B x, r) 6 3 170 = some (.int (I n)) := gf_of (sput_0 h i n B x) r 3
theorem rvS : recv (sput h i n B x, r) 170 6 = true := rv_of (sput_0 h i n B x) r
theorem alS : alen (sput h i n B x, r) (bAd i) = some (.int (I (capN i))) := by simp [alen, sput_1, bA]
theorem ws3 (m : Nat) : pfd (sput h i n B x, r) true 6 3 170 (.int (I m)) = some (sput h i m B x, r) :=
  pfd_of (sput_0 h i n B x) (by decide) (by decide) rfl (by rw [← spu_0 h i n B x m x]; rfl)
theorem ws2 : pfd (sput h i n B x, r) true 6 2 170 (.int 1) = some (sput h i n B 1, r) :=
  pfd_of (sput_0 h i n B x) (by decide) (by decide) rfl (by rw [← spu_0 h i n B x n 1]; rfl)
theorem rdS (h3 : i ≤ 3) {k : Nat} (hk : k < capN i) : ald (sput h i n B x, r) 102 (bAd i) (I k) = some (.int (B k)) := by
  have hc := cap_3 i h3
  unfold ald
  simp only [sput_1]
  unfold bA
  simp only [List.length_map, List.length_range]
  rw [if_pos ⟨trivial, fun q => q.elim (I_nn (by omega)) (fun q => by rw [I_nat (by omega)] at q; omega), by omega⟩, I_nat (by omega)]
  exact iA_get hk
theorem wrS (h3 : i ≤ 3) {k : Nat} (hk : k < capN i) (v : Int32) : ast (sput h i n B x, r) 102 (bAd i) (I k) (.int v) = some (sput h i n (up B k v) x, r) := by
  have hc := cap_3 i h3
  unfold ast
  simp only [sput_1]
  unfold bA
  simp only [List.length_map, List.length_range]
  rw [if_pos ⟨trivial, bAd_32 i, fun q => q.elim (I_nn (by omega)) (fun q => by rw [I_nat (by omega)] at q; omega)⟩, I_nat (by omega), iA_set]
  have e := spu_1 h i n B x (up B k v)
  unfold bA at e
  rw [hsu, e]
theorem m7S : rcal 7 [.ref 170] (sput h i n B x, r) = some (.inl (some (.int 1)), (sput h i n B x, r)) := by
  have o1 : ¬ (1 : Int32) = 0 := by decide
  simp only [c7, x7_0, x7_3, x7_6, x7_7, x7_10, x7_13, x7_14, x7_18, x7_17, gk_some, pk_some, qk_some, bnd_v, bnd_n, kl_int, kl_ref, kl_null, kl_un, Nat.reduceAdd, if_true, if_false, gs1, o1, fit1]
theorem shr0 (v : Int32) : v >>> ((0 : Int32) &&& 31) = v := by
  rw [show (0 : Int32) &&& 31 = 0 by decide]
  exact Int32.toBitVec_inj.mp (by simp)
theorem shl0 (v : Int32) : v <<< ((0 : Int32) &&& 31) = v := by
  rw [show (0 : Int32) &&& 31 = 0 by decide]
  exact Int32.toBitVec_inj.mp (by simp)
theorem e1_no (h3 : i ≤ 3) {m : Nat} (hm : m ≤ capN i) : rcal 1 [.ref 170, .int (I m)] (sput h i n B x, r) = some (.inl none, (sput h i n B x, r)) := by
  have hc := cap_3 i h3
  have o : ¬ 0 < I m - I (capN i) := by
    rw [Z_lt, Z_0, Z_sub (by rw [Z_I (by omega), Z_I (by omega)]; omega) (by rw [Z_I (by omega), Z_I (by omega)]; omega), Z_I (by omega), Z_I (by omega)]; omega
  simp only [c1, x1_0, x1_1, x1_4, x1_5, x1_6, x1_9, x1_10, x1_11, x1_12, x1_13, x1_14, x1_17, x1_18, x1_19, x1_22, x1_23, x1_24, x1_27, x1_28, x1_31, x1_32, x1_35, x1_38, gk_some, pk_some, qk_some, bnd_v, bnd_n, kl_int, kl_ref, kl_null, kl_un, Nat.reduceAdd, if_true, if_false, gs0, gs1, alS, shr0, o]
theorem I_sub {a b : Nat} (hb : b ≤ a) : I a - I b = I (a - b) := (Int32.ofNat_sub a b hb).symm
theorem m28 {c m : Nat} (hc : c ≤ 142) (hm : m ≤ c + 2) (H : HS) : rcal 28 [.int (I c), .int (I m), .int (I (c + 2))] H = some (.inl (some (.int (I (2 * c + 2)))), H) := by
  have e : (if I m < I (c + 2) then I (c + 2) else I m) = I (c + 2) := by
    by_cases q : m < c + 2
    · rw [if_pos ((I_lt (by omega) (by omega)).mpr q)]
    · rw [if_neg (fun z => q ((I_lt (by omega) (by omega)).mp z)), show m = c + 2 by omega]
  have e2 : I c + I (c + 2) = I (2 * c + 2) := by rw [I_add, show c + (c + 2) = 2 * c + 2 by omega]
  have o1 : 0 < I (2 * c + 2) := (I_lt (a := 0) (by decide) (by omega)).mpr (by omega)
  have o2 : ¬ 2147483639 < I (2 * c + 2) := fun z => by
    have := (I_lt (a := 2147483639) (by decide) (by omega)).mp z; omega
  simp only [c28, x28_0, x28_1, x28_2, x28_3, x28_6, x28_7, x28_8, x28_9, x28_10, x28_13, x28_14, x28_16, x28_19, x28_20, x28_21, x28_22, gk_some, pk_some, qk_some, bnd_v, bnd_n, kl_int, kl_ref, kl_null, kl_un, Nat.reduceAdd, if_true, if_false, e, e2, o1, o2]
theorem m2S (h3 : i < 3) {m : Nat} (h1 : capN i < m) (h2 : m ≤ 2 * capN i + 2) : rcal 2 [.ref 170, .int (I m)] (sput h i n B x, r) = some (.inl (some (.int (I (capN (i + 1))))), (sput h i n B x, r)) := by
  have hc := cap_3 i (by omega)
  have e1 : I m - I (capN i) = I (m - capN i) := I_sub (by omega)
  have t2 : (2 : Int32) <<< ((0 : Int32) &&& 31) = 2 := shl0 2
  have e2 : I (capN i) + 2 = I (capN i + 2) := I_add _ 2
  have t := fun H => m28 (c := capN i) (m := m - capN i) hc.2.1 (by omega) H
  rw [← (hc.2.2.1 h3).1] at t
  have o : ¬ I (capN (i + 1)) = 2147483647 := fun y => by
    have y2 : Z (I (capN (i + 1))) = 2147483647 := by rw [y]; rfl
    rw [Z_I (by have := (hc.2.2.1 h3).1; omega)] at y2
    have := (hc.2.2.1 h3).1; omega
  simp only [c2, x2_0, x2_1, x2_4, x2_5, x2_6, x2_7, x2_8, x2_11, x2_12, x2_13, x2_14, x2_15, x2_16, x2_18, x2_19, x2_21, x2_22, x2_23, x2_24, x2_27, x2_28, x2_29, x2_32, x2_34, x2_36, x2_38, x2_51, x2_53, x2_54, x2_57, x2_58, gk_some, pk_some, qk_some, bnd_v, bnd_n, kl_int, kl_ref, kl_null, kl_un, Nat.reduceAdd, if_true, if_false, gs0, gs1, alS, shl0, e1, t2, e2, t, o, shr0]
end SB
def Bg (i : Nat) (B : Nat → Int32) : Nat → Int32 := fun k => if k < capN i then B k else 0
section SB2
variable (h : PH) (i n : Nat) (B : Nat → Int32) (x : Int32) (c s : Nat)
theorem m26S (h3 : i < 3) : rcal 26 [.ref (bAd i), .int (I (capN (i + 1)))] (sput h i n B x, rS c s i) = some (.inl (some (.ref (186 + i))), (pu (sput h i n B x) (186 + i) (bA (capN (i + 1)) (Bg i B)), rS c s (i + 1))) := by
  have hc := cap_3 i (by omega)
  have hn := (hc.2.2.1 h3).1
  have o1 : ¬ I (capN (i + 1)) = I (capN i) := fun y => by
    have := (I_inj (by omega) (by omega)).mp y; omega
  have o2 : ¬ (I (capN (i + 1)) < 0 ∨ 100000 < capN (i + 1)) := fun q => q.elim (I_nn (by omega)) (fun q => by omega)
  have e3 : (if I (capN (i + 1)) < I (capN i) then I (capN (i + 1)) else I (capN i)) = I (capN i) := by
    rw [if_neg (fun z => by have := (I_lt (by omega) (by omega)).mp z; omega)]
  have na : (186 + i) ≠ bAd i := by unfold bAd; split <;> omega
  have n0 : (I (capN (i + 1))).toNatClampNeg = capN (i + 1) := I_nat (by omega)
  have hs : (hsn (sput h i n B x, rS c s i) (102, List.replicate (capN (i + 1)) (.int 0)) (capN (i + 1))) = (pu (sput h i n B x) (186 + i) (102, List.replicate (capN (i + 1)) (.int 0)), rS c s (i + 1)) := by
    unfold hsn rS
    rw [(hc.2.2.1 h3).2]
    simp only [Prod.mk.injEq, true_and]
    omega
  have al : alen (pu (sput h i n B x) (186 + i) (102, List.replicate (capN (i + 1)) (.int 0)), rS c s (i + 1)) (bAd i) = some (.int (I (capN i))) := by
    simp [alen, pu, Ne.symm na, sput_1, bA]
  have ac : acp (pu (sput h i n B x) (186 + i) (102, List.replicate (capN (i + 1)) (.int 0)), rS c s (i + 1)) (bAd i) (186 + i) 0 0 (I (capN i)) = some (pu (sput h i n B x) (186 + i) (bA (capN (i + 1)) (Bg i B)), rS c s (i + 1)) := by
    unfold acp
    have q1 : pu (sput h i n B x) (186 + i) (102, List.replicate (capN (i + 1)) (.int 0)) (bAd i) = some (bA (capN i) B) := by simp [pu, Ne.symm na, sput_1]
    have q2 : pu (sput h i n B x) (186 + i) (102, List.replicate (capN (i + 1)) (.int 0)) (186 + i) = some (102, List.replicate (capN (i + 1)) (.int 0)) := by simp [pu]
    simp only [q1, q2]
    unfold bA
    simp only [List.length_map, List.length_range, List.length_replicate]
    rw [if_pos ⟨trivial, Or.inr trivial, bAd_32 i, by unfold N0; omega, by decide, by decide, I_nn (by omega), by rw [I_nat (by omega)]; exact Nat.le_of_eq (Nat.zero_add _), by rw [I_nat (by omega)]; show 0 + capN i ≤ _; omega⟩]
    unfold hsu
    simp only [Option.some.injEq, Prod.mk.injEq, and_true]
    funext b
    simp only [pu]
    by_cases e : b = 186 + i
    · rw [if_pos e, if_pos e]
      refine congrArg some (Prod.ext rfl (List.map_congr_left fun j hj => ?_))
      rw [List.mem_range] at hj
      unfold va_cpy Bg
      rw [I_nat (by omega), show (0 : Int32).toNatClampNeg = 0 from rfl, Nat.zero_add]
      by_cases q : j < capN i
      · rw [if_pos ⟨Nat.zero_le _, q⟩, if_pos q]
        unfold fI
        rw [show 0 + (j - 0) = j by omega, iA_get q]
      · rw [if_neg (fun z => q z.2), if_neg q]
        unfold fI
        rw [List.getElem?_replicate, if_pos hj]
    · rw [if_neg e, if_neg e, if_neg e]
  have u1 : (rS c s i).1 = 186 + i := rfl
  simp only [c26, x26_0, x26_1, x26_2, x26_3, x26_6, x26_14, x26_15, x26_17, x26_18, x26_19, x26_20, x26_21, x26_22, x26_23, x26_24, x26_25, x26_28, x26_31, x26_32, gk_some, pk_some, qk_some, bnd_v, bnd_n, kl_int, kl_ref, kl_null, kl_un, Nat.reduceAdd, if_true, if_false, alS, o1, o2, n0, u1, hs, al, e3, ac]
theorem ens (h3 : i ≤ 3) (hn : n ≤ capN i) {m : Nat} (hm : m ≤ 142) (h2 : m ≤ 2 * capN i + 2) : ∃ h1 i' B', Fg h h1 ∧ i ≤ i' ∧ i' ≤ 3 ∧ m ≤ capN i' ∧ n ≤ capN i' ∧ Eqv n B' B ∧ rcal 1 [.ref 170, .int (I m)] (sput h i n B x, rS c s i) = some (.inl none, (sput h1 i' n B' x, rS c s i')) := by
  have hc := cap_3 i h3
  by_cases q : m ≤ capN i
  · exact ⟨h, i, B, Fg_rf h, Nat.le_refl _, h3, q, hn, fun _ _ => rfl, e1_no h i n B x (rS c s i) h3 q⟩
  · have i3 : i < 3 := by
      rcases Nat.lt_or_ge i 3 with z | z
      · exact z
      · have := hc.2.2.2 (by omega); omega
    have hn2 := (hc.2.2.1 i3).1
    refine ⟨pu h (bAd i) (bA (capN i) B), i + 1, Bg i B, ?_, by omega, by omega, by omega, by omega, fun k hk => by unfold Bg; rw [if_pos (by omega)], ?_⟩
    · intro b b1 b2
      have : b ≠ bAd i := by unfold bAd; split <;> omega
      simp [pu, this]
    · have o : 0 < I m - I (capN i) := by
        rw [Z_lt, Z_0, Z_sub (by rw [Z_I (by omega), Z_I (by omega)]; omega) (by rw [Z_I (by omega), Z_I (by omega)]; omega), Z_I (by omega), Z_I (by omega)]; omega
      have t2 := m2S h i n B x (rS c s i) i3 (m := m) (by omega) h2
      have t26 := m26S h i n B x c s i3
      have na : (186 + i) ≠ bAd i := by unfold bAd; split <;> omega
      have z0 : pu (sput h i n B x) (186 + i) (bA (capN (i + 1)) (Bg i B)) 170 = some (sO i n x) := by
        have : 170 ≠ 186 + i := by omega
        simp [pu, this, sput_0]
      have gz := gf_of z0 (rS c s (i + 1)) 0
      have w := pf_of (k := 0) (v := .ref (186 + i)) z0 (rS c s (i + 1)) (by decide) (by decide) rfl
      have eq : pu (pu (sput h i n B x) (186 + i) (bA (capN (i + 1)) (Bg i B))) 170 (6, List.set [.ref (bAd i), .int 0, .int x, .int (I n)] 0 (.ref (186 + i))) = sput (pu h (bAd i) (bA (capN i) B)) (i + 1) n (Bg i B) x := by
        have ea : bAd (i + 1) = 186 + i := by unfold bAd; rw [if_neg (by omega)]; omega
        funext b
        simp only [pu, sput, ea, sO]
        by_cases e : b = 170
        · rw [if_pos e, if_pos e]; rfl
        · rw [if_neg e, if_neg e]
          by_cases e2 : b = 186 + i
          · rw [if_pos e2, if_neg e]
          · rw [if_neg e2, if_neg e]
      change pfd _ true 6 0 170 _ = some (pu (pu (sput h i n B x) (186 + i) (bA (capN (i + 1)) (Bg i B))) 170 (6, List.set [.ref (bAd i), .int 0, .int x, .int (I n)] 0 (.ref (186 + i))), rS c s (i + 1)) at w
      rw [eq] at w
      simp only [c1, x1_0, x1_1, x1_4, x1_5, x1_6, x1_9, x1_10, x1_11, x1_12, x1_13, x1_14, x1_17, x1_18, x1_19, x1_22, x1_23, x1_24, x1_27, x1_28, x1_31, x1_32, x1_35, x1_38, gk_some, pk_some, qk_some, bnd_v, bnd_n, kl_int, kl_ref, kl_null, kl_un, Nat.reduceAdd, if_true, if_false, gs0, gs1, alS, rvS, shr0, shl0, o, t2, t26, w]
end SB2
