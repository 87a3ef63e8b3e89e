/-! the words of the tables, two more ahead of them: two private methods of AbstractStringBuilder on a StringBuilder -/
def yEns : MethodName := ⟨"java/lang/AbstractStringBuilder", "ensureCapacityInternal", "(I)V"⟩
def yCap : MethodName := ⟨"java/lang/AbstractStringBuilder", "newCapacity", "(I)I"⟩
def lw_W : List Cond := Cond.selects "java/lang/StringBuilder" yEns yEns :: Cond.selects "java/lang/StringBuilder" yCap yCap :: lw_tbl
def wat (p : Nat) (w : Cond) : Bool := decide (lw_W[p]? = some w) && goodWord w
def watN (p : Nat) (w : Cond) : Bool := decide (lw_W[p]? = some w)
theorem wat_in {p : Nat} {w : Cond} (h : wat p w = true) : w ∈ lw_W ∧ goodWord w = true := by
  rw [wat, Bool.and_eq_true] at h
  exact ⟨List.mem_of_getElem? (of_decide_eq_true h.1), h.2⟩
theorem watN_in {p : Nat} {w : Cond} (h : watN p w = true) : w ∈ lw_W := List.mem_of_getElem? (of_decide_eq_true h)
/-- how long an instruction is -/
def ilen (i : Instr) : Nat := match i with
  | .iload _ | .aload _ | .istore _ | .astore _ | .dload _ | .fload _ | .dstore _ | .fstore _ | .lload _ | .bipush _ | .newarray _ | .ldc _ => 2
  | .iinc _ _ | .getfield _ | .putfield _ | .getstatic _ | .sipush _ | .ldc2_w _ | .ldc_w _ | .goto _ | .ifCond _ _ | .if_icmp _ _ | .if_acmp _ _ | .ifnull _ | .ifnonnull _ | .invokevirtual _ | .invokestatic _ | .invokespecial _ | .new _ | .anewarray _ | .checkcast _ => 3
  | _ => 1
def aN (c : Nat) : String := bif Nat.beq c 105 then "SingleTrackLine$Train" else "SingleTrackLine$Line"
/-- what a callee's own words must be -/
def chkM (k : Nat) : Bool :=
  (match mhh k with | [] => wat (mpos k).1 (.code (mname k) (mbytes k) (mmax k) (mret k)) | hh => wat (mpos k).1 (.codeWith (mname k) (mbytes k) (mmax k) (mret k) hh)) &&
  wat (mpos k).2.1 (.initialized (mname k).cls) && (bif mstat k then wat (mpos k).2.2 (.static (mname k)) else wat (mpos k).2.2 (.instanceMethod (mname k))) &&
  decide ((mname k).cls ≠ "java/lang/invoke/MethodHandle") && decide ((mname k).cls ≠ "java/lang/invoke/VarHandle") && plainFor (mname k) &&
  decide ((parseMethodDescriptor (mname k).desc).map (fun d => d.parameters.length + (bif mstat k then 0 else 1)) = some (marg k)) && decide (mmax k ≤ 21) && decide (mown k = (mname k).cls) && Nat.ble 1 (mrk k)
/-- the words of a row of the code -/
def chkR (k pc : Nat) (e : En) : Bool := match e.1 with
  | .goto o | .ifCond _ o | .if_icmp _ o | .if_acmp _ o | .ifnull o | .ifnonnull o => decide ((pc : Int) + o = (e.2.1 : Int))
  | .getfield j | .putfield j => wat e.2.2.2.1 (.fieldLink (mown k) j (fT e.2.1 e.2.2.1).1 (fT e.2.1 e.2.2.1).2.1 (fT e.2.1 e.2.2.1).2.2.1) && Nat.blt e.2.2.1 (fN e.2.1) && Nat.blt e.2.1 9
  | .getstatic j => (bif Nat.beq e.2.2.1 0 then wat e.2.2.2.1 (.fieldLink (mown k) j (sT e.2.1).1 (sT e.2.1).2.1 (sT e.2.1).2.2) else watN e.2.2.2.1 (.fieldLinkNest (mown k) j (sT e.2.1).1 (sT e.2.1).2.1 (sT e.2.1).2.2 "SingleTrackLine")) && Nat.blt e.2.1 17
  | .ldc j | .ldc_w j => wat e.2.2.2.1 (.constant (mown k) j (Int32.ofNat e.2.1))
  | .ldc2_w j => wat e.2.2.2.1 (.constantLong (mown k) j (Int64.ofNat e.2.1))
  | .new j => bif Nat.blt e.2.1 7 then wat e.2.2.2.1 (.classLink (mown k) j (cN e.2.1)) else
      Nat.ble 1000 e.2.1 && Nat.blt e.2.1 1006 && wat e.2.2.2.1 (.classLink (mown k) j (eN (e.2.1 - 1000))) && decide (mhh k = []) && decide (decode (mbytes k) (pc + 3) = .ok (.dup, 1)) &&
      (bif Nat.blt e.2.2.1 100000 then decide (decode (mbytes k) (pc + 4) = .ok (.ldc e.2.2.1, 2)) && decide (decode (mbytes k) (pc + 6) = .ok (.invokespecial (e.2.2.2.2 % 100000), 3)) && decide (decode (mbytes k) (pc + 9) = .ok (.athrow, 1))
       else decide (decode (mbytes k) (pc + 4) = .ok (.ldc_w (e.2.2.1 - 100000), 3)) && decide (decode (mbytes k) (pc + 7) = .ok (.invokespecial (e.2.2.2.2 % 100000), 3)) && decide (decode (mbytes k) (pc + 10) = .ok (.athrow, 1))) &&
      (match lw_W[e.2.2.2.2 / 100000]? with | some (.stringRef own j2 _) => decide (own = mown k) && decide (j2 = e.2.2.1 % 100000) | _ => false)
  | .anewarray j => wat e.2.2.2.1 (.classLink (mown k) j (aN e.2.1)) && (Nat.beq e.2.1 105 || Nat.beq e.2.1 106)
  | .invokevirtual j => match e.2.2.1 with
      | 0 => wat e.2.2.2.1 (.methodLink (mown k) j (mname e.2.1)) && wat (e.2.2.2.2 / 100) (.selects (cN (e.2.2.2.2 % 100)) (mname e.2.1) (mname e.2.1)) && chkM e.2.1 && decide (mhh e.2.1 = []) && !mstat e.2.1 && Nat.blt (mrk e.2.1) (mrk k) && Nat.blt (e.2.2.2.2 % 100) 9 && Nat.blt e.2.1 282
      | _ => wat e.2.2.2.1 (.methodLink (mown k) j ⟨"SingleTrackLine$Command", "ordinal", "()I"⟩) && wat (e.2.2.2.2 / 100) (.selects "SingleTrackLine$Command" ⟨"SingleTrackLine$Command", "ordinal", "()I"⟩ (mname e.2.1)) && decide (mname e.2.1 = ⟨"java/lang/Enum", "ordinal", "()I"⟩) && chkM e.2.1 && decide (mhh e.2.1 = []) && !mstat e.2.1 && Nat.blt (mrk e.2.1) (mrk k) && decide (e.2.2.2.2 % 100 = 8) && Nat.beq e.2.2.1 3 && Nat.blt e.2.1 282
  | .invokestatic j => match e.2.2.1 with
      | 8 => wat e.2.2.2.1 (.methodLink (mown k) j Lib.Math.max.name)
      | 9 => wat e.2.2.2.1 (.methodLink (mown k) j Lib.Math.min.name)
      | 10 => wat e.2.2.2.1 (.methodLink (mown k) j Lib.Math.abs.name)
      | 11 => wat e.2.2.2.1 (.methodLink (mown k) j arraycopyName)
      | f => wat e.2.2.2.1 (.methodLink (mown k) j (mname e.2.1)) && chkM e.2.1 && mstat e.2.1 && Nat.blt (mrk e.2.1) (mrk k) && (bif Nat.beq f 1 then decide (mhh e.2.1 = []) else Nat.beq f 5 && decide (mhh e.2.1 ≠ [])) && Nat.blt e.2.1 282
  | .invokespecial j => match e.2.2.1 with
      | 7 => wat e.2.2.2.1 (.methodLink (mown k) j Lib.objectInit)
      | 4 => wat e.2.2.2.1 (.methodLink (mown k) j (mname e.2.1)) && chkM e.2.1 && !mstat e.2.1 && Nat.blt (mrk e.2.1) (mrk k) && decide (mhh e.2.1 = []) && decide (.sameMethod (mname e.2.1).cls (mname e.2.1).cls (mname e.2.1).name (mname e.2.1).desc ∈ lw_W) && decide (.superclass (mown k) (mname e.2.1).cls ∈ lw_W) && decide ((mname e.2.1).name ≠ "<init>") && Nat.blt e.2.1 282
      | f => (bif Nat.beq f 2 then wat e.2.2.2.1 (.methodLink (mown k) j (mname e.2.1)) else Nat.beq f 6 && watN e.2.2.2.1 (.methodLinkNest (mown k) j (mname e.2.1) "SingleTrackLine")) && chkM e.2.1 && !mstat e.2.1 && Nat.blt (mrk e.2.1) (mrk k) && decide (mhh e.2.1 = []) && decide (mret e.2.1 = none) && decide ((mname e.2.1).name = "<init>") && Nat.blt e.2.1 282
  | _ => true
def chkE (k pc : Nat) (e : En) : Bool :=
  (match e.1 with | .tableswitch .. => decide (decode (mbytes k) pc = .ok (e.1, e.2.1)) | i => decide (decode (mbytes k) pc = .ok (i, ilen i))) && chkR k pc e
def chkT (k : Nat) : Bool := (List.range (mtop k)).all fun pc => match mcode k pc with | none => true | some e => chkE k pc e
