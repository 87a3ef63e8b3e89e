/-! the check of a method's rows by one walk along its bytes -/
def chkMg (W : Nat → Cond → Bool) (k : Nat) : Bool :=
  (match mhh k with | [] => W (mpos k).1 (.code (mname k) (mbytes k) (mmax k) (mret k)) | hh => W (mpos k).1 (.codeWith (mname k) (mbytes k) (mmax k) (mret k) hh)) &&
  W (mpos k).2.1 (.initialized (mname k).cls) && (bif mstat k then W (mpos k).2.2 (.static (mname k)) else W (mpos k).2.2 (.instanceMethod (mname k))) &&
  decide ((mname k).cls ≠ "java/lang/invoke/MethodHandle") && decide ((mname k).cls ≠ "java/lang/invoke/VarHandle") && plainFor (mname k) &&
  decide ((parseMethodDescriptor (mname k).desc).map (fun d => d.parameters.length + (bif mstat k then 0 else 1)) = some (marg k)) && decide (mmax k ≤ 21) && decide (mown k = (mname k).cls) && Nat.ble 1 (mrk k)
def chkRg (W WN : Nat → Cond → Bool) (M : Bool) (L : Nat → Option Cond) (k pc : Nat) (e : En) : Bool := match e.1 with
  | .goto o | .ifCond _ o | .if_icmp _ o | .if_acmp _ o | .ifnull o | .ifnonnull o => decide ((pc : Int) + o = (e.2.1 : Int))
  | .getfield j | .putfield j => W e.2.2.2.1 (.fieldLink (mown k) j (fT e.2.1 e.2.2.1).1 (fT e.2.1 e.2.2.1).2.1 (fT e.2.1 e.2.2.1).2.2.1) && Nat.blt e.2.2.1 (fN e.2.1) && Nat.blt e.2.1 9
  | .getstatic j => (bif Nat.beq e.2.2.1 0 then W e.2.2.2.1 (.fieldLink (mown k) j (sT e.2.1).1 (sT e.2.1).2.1 (sT e.2.1).2.2) else WN e.2.2.2.1 (.fieldLinkNest (mown k) j (sT e.2.1).1 (sT e.2.1).2.1 (sT e.2.1).2.2 "SingleTrackLine")) && Nat.blt e.2.1 17
  | .ldc j | .ldc_w j => W e.2.2.2.1 (.constant (mown k) j (Int32.ofNat e.2.1))
  | .ldc2_w j => W e.2.2.2.1 (.constantLong (mown k) j (Int64.ofNat e.2.1))
  | .new j => bif Nat.blt e.2.1 7 then W e.2.2.2.1 (.classLink (mown k) j (cN e.2.1)) else
      Nat.ble 1000 e.2.1 && Nat.blt e.2.1 1006 && W e.2.2.2.1 (.classLink (mown k) j (eN (e.2.1 - 1000))) && decide (mhh k = []) && decide (decode (mbytes k) (pc + 3) = .ok (.dup, 1)) &&
      (bif Nat.blt e.2.2.1 100000 then decide (decode (mbytes k) (pc + 4) = .ok (.ldc e.2.2.1, 2)) && decide (decode (mbytes k) (pc + 6) = .ok (.invokespecial (e.2.2.2.2 % 100000), 3)) && decide (decode (mbytes k) (pc + 9) = .ok (.athrow, 1))
       else decide (decode (mbytes k) (pc + 4) = .ok (.ldc_w (e.2.2.1 - 100000), 3)) && decide (decode (mbytes k) (pc + 7) = .ok (.invokespecial (e.2.2.2.2 % 100000), 3)) && decide (decode (mbytes k) (pc + 10) = .ok (.athrow, 1))) &&
      (match L (e.2.2.2.2 / 100000) with | some (.stringRef own j2 _) => decide (own = mown k) && decide (j2 = e.2.2.1 % 100000) | _ => false)
  | .anewarray j => W e.2.2.2.1 (.classLink (mown k) j (aN e.2.1)) && (Nat.beq e.2.1 105 || Nat.beq e.2.1 106)
  | .invokevirtual j => match e.2.2.1 with
      | 0 => W e.2.2.2.1 (.methodLink (mown k) j (mname e.2.1)) && W (e.2.2.2.2 / 100) (.selects (cN (e.2.2.2.2 % 100)) (mname e.2.1) (mname e.2.1)) && M && decide (mhh e.2.1 = []) && !mstat e.2.1 && Nat.blt (mrk e.2.1) (mrk k) && Nat.blt (e.2.2.2.2 % 100) 9 && Nat.blt e.2.1 282
      | _ => W e.2.2.2.1 (.methodLink (mown k) j ⟨"SingleTrackLine$Command", "ordinal", "()I"⟩) && W (e.2.2.2.2 / 100) (.selects "SingleTrackLine$Command" ⟨"SingleTrackLine$Command", "ordinal", "()I"⟩ (mname e.2.1)) && decide (mname e.2.1 = ⟨"java/lang/Enum", "ordinal", "()I"⟩) && M && decide (mhh e.2.1 = []) && !mstat e.2.1 && Nat.blt (mrk e.2.1) (mrk k) && decide (e.2.2.2.2 % 100 = 8) && Nat.beq e.2.2.1 3 && Nat.blt e.2.1 282
  | .invokestatic j => match e.2.2.1 with
      | 8 => W e.2.2.2.1 (.methodLink (mown k) j Lib.Math.max.name)
      | 9 => W e.2.2.2.1 (.methodLink (mown k) j Lib.Math.min.name)
      | 10 => W e.2.2.2.1 (.methodLink (mown k) j Lib.Math.abs.name)
      | 11 => W e.2.2.2.1 (.methodLink (mown k) j arraycopyName)
      | f => W e.2.2.2.1 (.methodLink (mown k) j (mname e.2.1)) && M && mstat e.2.1 && Nat.blt (mrk e.2.1) (mrk k) && (bif Nat.beq f 1 then decide (mhh e.2.1 = []) else Nat.beq f 5 && decide (mhh e.2.1 ≠ [])) && Nat.blt e.2.1 282
  | .invokespecial j => match e.2.2.1 with
      | 7 => W e.2.2.2.1 (.methodLink (mown k) j Lib.objectInit)
      | 4 => W e.2.2.2.1 (.methodLink (mown k) j (mname e.2.1)) && M && !mstat e.2.1 && Nat.blt (mrk e.2.1) (mrk k) && decide (mhh e.2.1 = []) && decide (.sameMethod (mname e.2.1).cls (mname e.2.1).cls (mname e.2.1).name (mname e.2.1).desc ∈ lw_W) && decide (.superclass (mown k) (mname e.2.1).cls ∈ lw_W) && decide ((mname e.2.1).name ≠ "<init>") && Nat.blt e.2.1 282
      | f => (bif Nat.beq f 2 then W e.2.2.2.1 (.methodLink (mown k) j (mname e.2.1)) else Nat.beq f 6 && WN e.2.2.2.1 (.methodLinkNest (mown k) j (mname e.2.1) "SingleTrackLine")) && M && !mstat e.2.1 && Nat.blt (mrk e.2.1) (mrk k) && decide (mhh e.2.1 = []) && decide (mret e.2.1 = none) && decide ((mname e.2.1).name = "<init>") && Nat.blt e.2.1 282
  | _ => true
theorem chkMg_eq (k : Nat) : chkMg wat k = chkM k := rfl
theorem chkRg_eq (k pc : Nat) (e : En) : chkRg wat watN (chkM e.2.1) (fun p => lw_W[p]?) k pc e = chkR k pc e := rfl
def lqc0 : List Cond := lw_W
def lqc1 : List Cond := lqc0.drop 64
def lqc2 : List Cond := lqc1.drop 64
def lqc3 : List Cond := lqc2.drop 64
def lqc4 : List Cond := lqc3.drop 64
def lqc5 : List Cond := lqc4.drop 64
def lqc6 : List Cond := lqc5.drop 64
def lqc7 : List Cond := lqc6.drop 64
def lqc8 : List Cond := lqc7.drop 64
def lqc9 : List Cond := lqc8.drop 64
def lqc10 : List Cond := lqc9.drop 64
def lqc11 : List Cond := lqc10.drop 64
def lqc12 : List Cond := lqc11.drop 64
def lqc13 : List Cond := lqc12.drop 64
def lqc14 : List Cond := lqc13.drop 64
def lqc15 : List Cond := lqc14.drop 64
def lqc16 : List Cond := lqc15.drop 64
def lqc17 : List Cond := lqc16.drop 64
def lqc18 : List Cond := lqc17.drop 64
def lqc19 : List Cond := lqc18.drop 64
def lqc20 : List Cond := lqc19.drop 64
def lqc21 : List Cond := lqc20.drop 64
def lqc22 : List Cond := lqc21.drop 64
def lqc23 : List Cond := lqc22.drop 64
def lqc24 : List Cond := lqc23.drop 64
def lqc25 : List Cond := lqc24.drop 64
def lqc26 : List Cond := lqc25.drop 64
def lqc27 : List Cond := lqc26.drop 64
def lqc28 : List Cond := lqc27.drop 64
def lqc29 : List Cond := lqc28.drop 64
def lqc30 : List Cond := lqc29.drop 64
def lqc31 : List Cond := lqc30.drop 64
def lqc32 : List Cond := lqc31.drop 64
theorem lqc0_eq : lqc0 = lw_W.drop (64 * 0) := rfl
theorem lqc1_eq : lqc1 = lw_W.drop (64 * 1) := by rw [show lqc1 = lqc0.drop 64 from rfl, lqc0_eq, List.drop_drop]
theorem lqc2_eq : lqc2 = lw_W.drop (64 * 2) := by rw [show lqc2 = lqc1.drop 64 from rfl, lqc1_eq, List.drop_drop]
theorem lqc3_eq : lqc3 = lw_W.drop (64 * 3) := by rw [show lqc3 = lqc2.drop 64 from rfl, lqc2_eq, List.drop_drop]
theorem lqc4_eq : lqc4 = lw_W.drop (64 * 4) := by rw [show lqc4 = lqc3.drop 64 from rfl, lqc3_eq, List.drop_drop]
theorem lqc5_eq : lqc5 = lw_W.drop (64 * 5) := by rw [show lqc5 = lqc4.drop 64 from rfl, lqc4_eq, List.drop_drop]
theorem lqc6_eq : lqc6 = lw_W.drop (64 * 6) := by rw [show lqc6 = lqc5.drop 64 from rfl, lqc5_eq, List.drop_drop]
theorem lqc7_eq : lqc7 = lw_W.drop (64 * 7) := by rw [show lqc7 = lqc6.drop 64 from rfl, lqc6_eq, List.drop_drop]
theorem lqc8_eq : lqc8 = lw_W.drop (64 * 8) := by rw [show lqc8 = lqc7.drop 64 from rfl, lqc7_eq, List.drop_drop]
theorem lqc9_eq : lqc9 = lw_W.drop (64 * 9) := by rw [show lqc9 = lqc8.drop 64 from rfl, lqc8_eq, List.drop_drop]
theorem lqc10_eq : lqc10 = lw_W.drop (64 * 10) := by rw [show lqc10 = lqc9.drop 64 from rfl, lqc9_eq, List.drop_drop]
theorem lqc11_eq : lqc11 = lw_W.drop (64 * 11) := by rw [show lqc11 = lqc10.drop 64 from rfl, lqc10_eq, List.drop_drop]
theorem lqc12_eq : lqc12 = lw_W.drop (64 * 12) := by rw [show lqc12 = lqc11.drop 64 from rfl, lqc11_eq, List.drop_drop]
theorem lqc13_eq : lqc13 = lw_W.drop (64 * 13) := by rw [show lqc13 = lqc12.drop 64 from rfl, lqc12_eq, List.drop_drop]
theorem lqc14_eq : lqc14 = lw_W.drop (64 * 14) := by rw [show lqc14 = lqc13.drop 64 from rfl, lqc13_eq, List.drop_drop]
theorem lqc15_eq : lqc15 = lw_W.drop (64 * 15) := by rw [show lqc15 = lqc14.drop 64 from rfl, lqc14_eq, List.drop_drop]
theorem lqc16_eq : lqc16 = lw_W.drop (64 * 16) := by rw [show lqc16 = lqc15.drop 64 from rfl, lqc15_eq, List.drop_drop]
theorem lqc17_eq : lqc17 = lw_W.drop (64 * 17) := by rw [show lqc17 = lqc16.drop 64 from rfl, lqc16_eq, List.drop_drop]
theorem lqc18_eq : lqc18 = lw_W.drop (64 * 18) := by rw [show lqc18 = lqc17.drop 64 from rfl, lqc17_eq, List.drop_drop]
theorem lqc19_eq : lqc19 = lw_W.drop (64 * 19) := by rw [show lqc19 = lqc18.drop 64 from rfl, lqc18_eq, List.drop_drop]
theorem lqc20_eq : lqc20 = lw_W.drop (64 * 20) := by rw [show lqc20 = lqc19.drop 64 from rfl, lqc19_eq, List.drop_drop]
theorem lqc21_eq : lqc21 = lw_W.drop (64 * 21) := by rw [show lqc21 = lqc20.drop 64 from rfl, lqc20_eq, List.drop_drop]
theorem lqc22_eq : lqc22 = lw_W.drop (64 * 22) := by rw [show lqc22 = lqc21.drop 64 from rfl, lqc21_eq, List.drop_drop]
theorem lqc23_eq : lqc23 = lw_W.drop (64 * 23) := by rw [show lqc23 = lqc22.drop 64 from rfl, lqc22_eq, List.drop_drop]
theorem lqc24_eq : lqc24 = lw_W.drop (64 * 24) := by rw [show lqc24 = lqc23.drop 64 from rfl, lqc23_eq, List.drop_drop]
theorem lqc25_eq : lqc25 = lw_W.drop (64 * 25) := by rw [show lqc25 = lqc24.drop 64 from rfl, lqc24_eq, List.drop_drop]
theorem lqc26_eq : lqc26 = lw_W.drop (64 * 26) := by rw [show lqc26 = lqc25.drop 64 from rfl, lqc25_eq, List.drop_drop]
theorem lqc27_eq : lqc27 = lw_W.drop (64 * 27) := by rw [show lqc27 = lqc26.drop 64 from rfl, lqc26_eq, List.drop_drop]
theorem lqc28_eq : lqc28 = lw_W.drop (64 * 28) := by rw [show lqc28 = lqc27.drop 64 from rfl, lqc27_eq, List.drop_drop]
theorem lqc29_eq : lqc29 = lw_W.drop (64 * 29) := by rw [show lqc29 = lqc28.drop 64 from rfl, lqc28_eq, List.drop_drop]
theorem lqc30_eq : lqc30 = lw_W.drop (64 * 30) := by rw [show lqc30 = lqc29.drop 64 from rfl, lqc29_eq, List.drop_drop]
theorem lqc31_eq : lqc31 = lw_W.drop (64 * 31) := by rw [show lqc31 = lqc30.drop 64 from rfl, lqc30_eq, List.drop_drop]
theorem lqc32_eq : lqc32 = lw_W.drop (64 * 32) := by rw [show lqc32 = lqc31.drop 64 from rfl, lqc31_eq, List.drop_drop]
def lqc (j : Nat) : List Cond := bif Nat.beq j 0 then lqc0 else bif Nat.beq j 1 then lqc1 else bif Nat.beq j 2 then lqc2 else bif Nat.beq j 3 then lqc3 else bif Nat.beq j 4 then lqc4 else bif Nat.beq j 5 then lqc5 else bif Nat.beq j 6 then lqc6 else bif Nat.beq j 7 then lqc7 else bif Nat.beq j 8 then lqc8 else bif Nat.beq j 9 then lqc9 else bif Nat.beq j 10 then lqc10 else bif Nat.beq j 11 then lqc11 else bif Nat.beq j 12 then lqc12 else bif Nat.beq j 13 then lqc13 else bif Nat.beq j 14 then lqc14 else bif Nat.beq j 15 then lqc15 else bif Nat.beq j 16 then lqc16 else bif Nat.beq j 17 then lqc17 else bif Nat.beq j 18 then lqc18 else bif Nat.beq j 19 then lqc19 else bif Nat.beq j 20 then lqc20 else bif Nat.beq j 21 then lqc21 else bif Nat.beq j 22 then lqc22 else bif Nat.beq j 23 then lqc23 else bif Nat.beq j 24 then lqc24 else bif Nat.beq j 25 then lqc25 else bif Nat.beq j 26 then lqc26 else bif Nat.beq j 27 then lqc27 else bif Nat.beq j 28 then lqc28 else bif Nat.beq j 29 then lqc29 else bif Nat.beq j 30 then lqc30 else bif Nat.beq j 31 then lqc31 else bif Nat.beq j 32 then lqc32 else lw_W.drop (64 * j)
theorem lqc_one {j n : Nat} {A B D : List Cond} (hA : A = lw_W.drop (64 * n)) (hB : B = lw_W.drop (64 * j)) : (bif Nat.beq j n then A else B) = lw_W.drop (64 * j) := by
  cases hc : Nat.beq j n
  · exact hB
  · rw [Nat.eq_of_beq_eq_true hc]; exact hA
theorem lqc_eq (j : Nat) : lqc j = lw_W.drop (64 * j) := lqc_one (D := []) lqc0_eq (lqc_one (D := []) lqc1_eq (lqc_one (D := []) lqc2_eq (lqc_one (D := []) lqc3_eq (lqc_one (D := []) lqc4_eq (lqc_one (D := []) lqc5_eq (lqc_one (D := []) lqc6_eq (lqc_one (D := []) lqc7_eq (lqc_one (D := []) lqc8_eq (lqc_one (D := []) lqc9_eq (lqc_one (D := []) lqc10_eq (lqc_one (D := []) lqc11_eq (lqc_one (D := []) lqc12_eq (lqc_one (D := []) lqc13_eq (lqc_one (D := []) lqc14_eq (lqc_one (D := []) lqc15_eq (lqc_one (D := []) lqc16_eq (lqc_one (D := []) lqc17_eq (lqc_one (D := []) lqc18_eq (lqc_one (D := []) lqc19_eq (lqc_one (D := []) lqc20_eq (lqc_one (D := []) lqc21_eq (lqc_one (D := []) lqc22_eq (lqc_one (D := []) lqc23_eq (lqc_one (D := []) lqc24_eq (lqc_one (D := []) lqc25_eq (lqc_one (D := []) lqc26_eq (lqc_one (D := []) lqc27_eq (lqc_one (D := []) lqc28_eq (lqc_one (D := []) lqc29_eq (lqc_one (D := []) lqc30_eq (lqc_one (D := []) lqc31_eq (lqc_one (D := []) lqc32_eq (rfl)))))))))))))))))))))))))))))))))
def atF (p : Nat) : Option Cond := (lqc (p / 64))[p % 64]?
theorem atF_eq (p : Nat) : atF p = lw_W[p]? := by
  unfold atF
  rw [lqc_eq, List.getElem?_drop, Nat.div_add_mod]
def watF (p : Nat) (w : Cond) : Bool := decide (atF p = some w) && goodWord w
def watNF (p : Nat) (w : Cond) : Bool := decide (atF p = some w)
theorem watF_eq : watF = wat := by
  funext p w
  unfold watF wat
  simp only [atF_eq]
theorem watNF_eq : watNF = watN := by
  funext p w
  unfold watNF watN
  simp only [atF_eq]
theorem atF_fun : atF = (fun p => lw_W[p]?) := funext atF_eq
/-- a call's own callee is one of those of chkM_lt -/
def goM (e : En) : Bool := match e.1 with
  | .invokevirtual _ | .invokestatic _ | .invokespecial _ => Nat.blt e.2.1 281
  | _ => true
theorem chkRg_M {W WN : Nat → Cond → Bool} {L : Nat → Option Cond} {M : Bool} {k pc : Nat} {e : En} (h : goM e = true) (hM : e.2.1 < 281 → M = true) : chkRg W WN true L k pc e = chkRg W WN M L k pc e := by
  by_cases c : e.2.1 < 281
  · rw [hM c]
  · obtain ⟨i, a, x, y, z⟩ := e
    cases i <;> first | rfl | exact absurd (of_decide_eq_true ((Nat.blt_eq).mp h |> decide_eq_true)) c
def opOk : List UInt8 → Bool
  | [] => false
  | b :: _ => Nat.testBit opmask b.toNat
def dcF (k pc : Nat) (bs : List UInt8) (e : En) : Bool := match e.1 with
  | .tableswitch .. => decide (decode (mbytes k) pc = .ok (e.1, e.2.1))
  | .newarray _ => decide (decode (mbytes k) pc = .ok (e.1, 2))
  | i => opOk bs && decide (decode (winL bs) 0 = .ok (i, ilen i))
theorem dcF_gen {k pc n : Nat} {bs : List UInt8} {i : Instr} (hb : bs = (mbytes k).data.toList.drop pc) (h : (opOk bs && decide (decode (winL bs) 0 = .ok (i, n))) = true) : decide (decode (mbytes k) pc = .ok (i, n)) = true := by
  rw [Bool.and_eq_true] at h
  have hd := of_decide_eq_true h.2
  have hw := winL_at (mbytes k) pc
  rw [← hb] at hw
  cases bs with
  | nil => exact absurd h.1 Bool.false_ne_true
  | cons b r =>
    have hz : 0 < (winL (b :: r)).size := Nat.succ_pos _
    exact decide_eq_true (decode_move hw hz rfl h.1 hd)
def chkF (k pc : Nat) (bs : List UInt8) (e : En) : Bool := dcF k pc bs e && goM e && chkRg watF watNF true atF k pc e
