/-! THE PURE MACHINE: a method's code run over a heap of plain lists. -/
abbrev PO : Type := Nat × List Value
abbrev PH : Type := Nat → Option PO
/-- heap, next address, cells made, slots made -/
abbrev HS : Type := PH × Nat × Nat × Nat
def pu (h : PH) (a : Nat) (o : PO) : PH := fun b => if b = a then some o else h b
def hsu (H : HS) (a : Nat) (o : PO) : HS := (pu H.1 a o, H.2.1, H.2.2.1, H.2.2.2)
def hsx (H : HS) : HS := (H.1, H.2.1, H.2.2.1 + 1, H.2.2.2 + 6)
def hsn (H : HS) (o : PO) (n : Nat) : HS := (pu H.1 H.2.1 o, H.2.1 + 1, H.2.2.1 + 1, H.2.2.2 + n)
abbrev Rs : Type := (Option Value ⊕ Nat) × HS
abbrev Cf : Type := Nat × Nat × List Value × List Value × HS
abbrev SO : Type := Rs ⊕ (Cf ⊕ (Cf × (Rs → Option (Rs ⊕ Cf))))
abbrev un : Value := .retAddr 0
/-- the first address that the program makes -/
abbrev N0 : Nat := 32
def kl (v : Value) : Value := match v with
  | .long _ => un
  | .double _ => un
  | v => v
def lst : List Value → Nat → Value → List Value
  | [], _, _ => []
  | _ :: L, 0, v => v :: L
  | a :: L, 1, v => kl a :: (match L with
    | [] => []
    | _ :: L => v :: L)
  | a :: L, i + 2, v => a :: lst L (i + 1) v
def lst2 (L : List Value) (i : Nat) (v : Value) : List Value := (lst L i v).set (i + 1) un
def fitp (t : Nat) (v : Value) : Bool := match t, v with
  | 0, .int _ => true
  | 1, .int x => x == 0 || x == 1
  | 2, .int x => x == x.toInt8.toInt32
  | 3, .int x => x == (x.toUInt32 % 65536).toInt32
  | 4, .long _ => true
  | 5, .ref _ => true
  | 5, .null => true
  | _, _ => false
def rtC (t : Option FieldType) : Nat := match t with
  | some .int => 0
  | some .boolean => 1
  | some .byte => 2
  | some .char => 3
  | some .long => 4
  | some (.object _) => 5
  | some (.array _) => 5
  | some .float => 6
  | some .double => 7
  | _ => 8
def isR (v : Value) : Bool := match v with
  | .ref _ => true
  | .null => true
  | .retAddr 9 => true
  | _ => false
def isRo (v : Value) : Bool := match v with
  | .ref _ => true
  | .null => true
  | .retAddr (_ + 1) => true
  | _ => false
def eL1 : List Value → List Value
  | [] => []
  | .long x :: l => .long x :: un :: eL1 l
  | .double x :: l => .double x :: un :: eL1 l
  | v :: l => v :: eL1 l
def eL (k : Nat) (as : List Value) : List Value := eL1 as ++ List.replicate (mmax k - (eL1 as).length) un
/-- the kinds of arrays: 100 int, 101 char, 102 byte, 103 long, 104 double, 105 trains, 106 lines, 107 commands -/
def akind (t : ArrayType) : Option (Nat × Value) := match t with
  | .int => some (100, .int 0)
  | .char => some (101, .int 0)
  | .byte => some (102, .int 0)
  | .long => some (103, .long 0)
  | .double => some (104, .double 0)
  | _ => none
/-- which handler takes an exception e that comes at pc -/
def hfind (hs : List (Nat × Nat × Nat × Nat × Nat)) (pc e : Nat) : Option Nat := match hs with
  | [] => none
  | (s, t, h, c, _) :: r => if s ≤ pc ∧ pc < t ∧ c = e then some h else hfind r pc e
def nx (k pc : Nat) (L st : List Value) (H : HS) : Option SO := some (.inr (.inl (k, pc, L, st, H)))
def icmp (c : Jvm.ClassFile.Cond) (x y : Int32) : Bool := match c with
  | .eq => decide (x = y)
  | .ne => decide (¬ x = y)
  | .lt => decide (x < y)
  | .ge => decide (¬ x < y)
  | .gt => decide (y < x)
  | .le => decide (¬ y < x)
def ald (H : HS) (kd a : Nat) (i : Int32) : Option Value := match H.1 a with
  | some (c, vs) => if c = kd ∧ ¬ (i < 0 ∨ vs.length ≤ i.toNatClampNeg) ∧ vs.length < 2147483648 then vs[i.toNatClampNeg]? else none
  | none => none
def ast (H : HS) (kd a : Nat) (i : Int32) (v : Value) : Option HS := match H.1 a with
  | some (c, vs) => if c = kd ∧ N0 ≤ a ∧ ¬ (i < 0 ∨ vs.length ≤ i.toNatClampNeg) then some (hsu H a (kd, vs.set i.toNatClampNeg v)) else none
  | none => none
def alen (H : HS) (a : Nat) : Option Value := match H.1 a with
  | some (c, vs) => if 100 ≤ c ∧ c < 108 then some (.int (Int32.ofNat vs.length)) else none
  | none => none
def gfd (H : HS) (ci fk a : Nat) : Option Value := match H.1 a with
  | some (c, fs) => if c = ci then fs[fk]? else none
  | none => none
def pfd (H : HS) (ok : Bool) (ci fk a : Nat) (v : Value) : Option HS := match H.1 a with
  | some (c, fs) => if c = ci ∧ ci < 7 ∧ N0 ≤ a ∧ ok = true ∧ fitp ((fC ci).getD fk 9) v = true then some (hsu H a (ci, fs.set fk v)) else none
  | none => none
def isRefArr (c : Nat) : Bool := Nat.beq c 105 || Nat.beq c 106 || Nat.beq c 107
def aald (H : HS) (a : Nat) (i : Int32) : Option Value := match H.1 a with
  | some (c, vs) => if isRefArr c = true ∧ ¬ (i < 0 ∨ vs.length ≤ i.toNatClampNeg) then vs[i.toNatClampNeg]? else none
  | none => none
def aast (H : HS) (a : Nat) (i : Int32) (v : Nat) : Option HS := match H.1 a with
  | some (c, vs) => if ((c = 105 ∧ (H.1 v).map Prod.fst = some 2) ∨ (c = 106 ∧ (H.1 v).map Prod.fst = some 1)) ∧ N0 ≤ v ∧ N0 ≤ a ∧ ¬ (i < 0 ∨ vs.length ≤ i.toNatClampNeg) then some (hsu H a (c, vs.set i.toNatClampNeg (.ref v))) else none
  | none => none
def fI (vs : List Value) (j : Nat) : Int32 := match vs[j]? with
  | some (.int x) => x
  | _ => 0
def acp (H : HS) (s d : Nat) (sp dp n : Int32) : Option HS := match H.1 s, H.1 d with
  | some (c, vs), some (c2, vd) => if c = c2 ∧ (c = 100 ∨ c = 102) ∧ N0 ≤ s ∧ N0 ≤ d ∧ ¬ sp < 0 ∧ ¬ dp < 0 ∧ ¬ n < 0 ∧ sp.toNatClampNeg + n.toNatClampNeg ≤ vs.length ∧ dp.toNatClampNeg + n.toNatClampNeg ≤ vd.length
      then some (hsu H d (c, (List.range vd.length).map fun j => .int (va_cpy (fI vs) (fI vd) sp.toNatClampNeg dp.toNatClampNeg n.toNatClampNeg j))) else none
  | _, _ => none
/-- are two references one object? (places of enums, or objects that the program made, or null) -/
def req (H : HS) (x y : Value) : Option Bool := match x, y with
  | .ref a, .ref b => if ((1 ≤ a ∧ a ≤ 4) ∨ (N0 ≤ a ∧ (H.1 a).isSome = true)) ∧ ((1 ≤ b ∧ b ≤ 4) ∨ (N0 ≤ b ∧ (H.1 b).isSome = true)) then some (decide (a = b)) else none
  | .ref _, .null => some false
  | .null, .ref _ => some false
  | .null, .null => some true
  | _, _ => none
def recv (H : HS) (b ci : Nat) : Bool := match H.1 b with
  | some (c, _) => Nat.beq c ci
  | none => false
/-- behind a call -/
def aft (b : Bool) (k pc : Nat) (L rest : List Value) : Rs → Option (Rs ⊕ Cf) := fun r => match r with
  | (.inl v, H') => some (.inr (k, pc + 3, L, v.toList ++ rest, H'))
  | (.inr e, H') => bif b then (match hfind (mexc k) pc e with
      | some h => some (.inr (k, h, L, [.retAddr 9], H'))
      | none => some (.inl (.inr e, H'))) else none
def cal (b : Bool) (k pc : Nat) (L : List Value) (H : HS) (y : Nat) (st : List Value) : Option SO :=
  if marg y ≤ st.length ∧ (st.drop (marg y)).length ≤ 4 ∧ mrk y < mrk k ∧ (eL1 ((st.take (marg y)).reverse)).length ≤ mmax y ∧ (st.all fun v => decide (v ≠ un)) = true then
    some (.inr (.inr ((y, 0, eL y ((st.take (marg y)).reverse), [], H), aft b k pc L (st.drop (marg y)))))
  else none
def stepI (k pc : Nat) (L st : List Value) (H : HS) : Option SO := match mcode k pc with
  | none => none
  | some (i, x, y, z, u) => match i with
    | .aconst_null => nx k (pc + 1) L (.null :: st) H
    | .iconst n => nx k (pc + 1) L (.int (Int32.ofInt n) :: st) H
    | .bipush n => nx k (pc + 2) L (.int (Int8.ofInt n).toInt32 :: st) H
    | .sipush n => nx k (pc + 3) L (.int (Int16.ofInt n).toInt32 :: st) H
    | .lconst n => nx k (pc + 1) L (.long (Int64.ofNat (n : Nat)) :: st) H
    | .fconst n => if n = 0 then nx k (pc + 1) L (.float FP.fconst0 :: st) H else none
    | .dconst n => if n = 0 then nx k (pc + 1) L (.double FP.dconst0 :: st) H else none
    | .ldc _ => nx k (pc + 2) L (.int (Int32.ofNat x) :: st) H
    | .ldc_w _ => none
    | .ldc2_w _ => nx k (pc + 3) L (.long (Int64.ofNat x) :: st) H
    | .iload_n n => match L[(n : Nat)]? with
      | some (.int v) => nx k (pc + 1) L (.int v :: st) H
      | _ => none
    | .iload n => match L[n]? with
      | some (.int v) => nx k (pc + 2) L (.int v :: st) H
      | _ => none
    | .lload_n n => match L[(n : Nat)]? with
      | some (.long v) => nx k (pc + 1) L (.long v :: st) H
      | _ => none
    | .lload n => match L[n]? with
      | some (.long v) => nx k (pc + 2) L (.long v :: st) H
      | _ => none
    | .fload n => match L[n]? with
      | some (.float v) => nx k (pc + 2) L (.float v :: st) H
      | _ => none
    | .dload n => match L[n]? with
      | some (.double v) => nx k (pc + 2) L (.double v :: st) H
      | _ => none
    | .aload_n n => match L[(n : Nat)]? with
      | some v => if isRo v = true then nx k (pc + 1) L (v :: st) H else none
      | _ => none
    | .aload n => match L[n]? with
      | some v => if isRo v = true then nx k (pc + 2) L (v :: st) H else none
      | _ => none
    | .istore_n n => match st with
      | .int v :: st => if (n : Nat) < L.length then nx k (pc + 1) (lst L n (.int v)) st H else none
      | _ => none
    | .istore n => match st with
      | .int v :: st => if n < L.length then nx k (pc + 2) (lst L n (.int v)) st H else none
      | _ => none
    | .fstore n => match st with
      | .float v :: st => if n < L.length then nx k (pc + 2) (lst L n (.float v)) st H else none
      | _ => none
    | .dstore n => match st with
      | .double v :: st => if n + 1 < L.length then nx k (pc + 2) (lst2 L n (.double v)) st H else none
      | _ => none
    | .astore_n n => match st with
      | v :: st => if (n : Nat) < L.length ∧ isR v = true then nx k (pc + 1) (lst L n v) st H else none
      | _ => none
    | .astore n => match st with
      | v :: st => if n < L.length ∧ isR v = true then nx k (pc + 2) (lst L n v) st H else none
      | _ => none
    | .iinc n c => match L[n]? with
      | some (.int v) => nx k (pc + 3) (lst L n (.int (v + Int32.ofInt c))) st H
      | _ => none
    | .dup => match st with
      | v :: st => if v.category = 1 then nx k (pc + 1) L (v :: v :: st) H else none
      | _ => none
    | .pop => match st with
      | v :: st => if v.category = 1 then nx k (pc + 1) L st H else none
      | _ => none
    | .dup2 => match st with
      | v :: w :: st => if v.category = 1 ∧ w.category = 1 then nx k (pc + 1) L (v :: w :: v :: w :: st) H else none
      | _ => none
    | .dup_x1 => match st with
      | v :: w :: st => if v.category = 1 ∧ w.category = 1 then nx k (pc + 1) L (v :: w :: v :: st) H else none
      | _ => none
    | .iadd => match st with
      | .int b :: .int a :: st => nx k (pc + 1) L (.int (a + b) :: st) H
      | _ => none
    | .isub => match st with
      | .int b :: .int a :: st => nx k (pc + 1) L (.int (a - b) :: st) H
      | _ => none
    | .imul => match st with
      | .int b :: .int a :: st => nx k (pc + 1) L (.int (a * b) :: st) H
      | _ => none
    | .idiv => match st with
      | .int b :: .int a :: st => if b = 0 then none else nx k (pc + 1) L (.int (a / b) :: st) H
      | _ => none
    | .irem => match st with
      | .int b :: .int a :: st => if b = 0 then none else nx k (pc + 1) L (.int (a - a / b * b) :: st) H
      | _ => none
    | .ineg => match st with
      | .int a :: st => nx k (pc + 1) L (.int (-a) :: st) H
      | _ => none
    | .iand => match st with
      | .int b :: .int a :: st => nx k (pc + 1) L (.int (a &&& b) :: st) H
      | _ => none
    | .ixor => match st with
      | .int b :: .int a :: st => nx k (pc + 1) L (.int (a ^^^ b) :: st) H
      | _ => none
    | .ishl => match st with
      | .int b :: .int a :: st => nx k (pc + 1) L (.int (a <<< (b &&& 31)) :: st) H
      | _ => none
    | .ishr => match st with
      | .int b :: .int a :: st => nx k (pc + 1) L (.int (a >>> (b &&& 31)) :: st) H
      | _ => none
    | .ladd => match st with
      | .long b :: .long a :: st => nx k (pc + 1) L (.long (a + b) :: st) H
      | _ => none
    | .i2l => match st with
      | .int a :: st => nx k (pc + 1) L (.long a.toInt64 :: st) H
      | _ => none
    | .i2c => match st with
      | .int a :: st => nx k (pc + 1) L (.int (a.toUInt32 % 65536).toInt32 :: st) H
      | _ => none
    | .i2b => match st with
      | .int a :: st => nx k (pc + 1) L (.int a.toInt8.toInt32 :: st) H
      | _ => none
    | .i2d => match st with
      | .int a :: st => nx k (pc + 1) L (.double (FP.i2d a) :: st) H
      | _ => none
    | .l2d => match st with
      | .long a :: st => nx k (pc + 1) L (.double (FP.l2d a) :: st) H
      | _ => none
    | .i2f => match st with
      | .int a :: st => nx k (pc + 1) L (.float (FP.i2f a) :: st) H
      | _ => none
    | .fdiv => match st with
      | .float b :: .float a :: st => if FP.fdiv a b &&& 0x7fffffff ≤ 0x7f800000 then nx k (pc + 1) L (.float (FP.fdiv a b) :: st) H else none
      | _ => none
    | .ddiv => match st with
      | .double b :: .double a :: st => if FP.ddiv a b &&& 0x7fffffffffffffff ≤ 0x7ff0000000000000 then nx k (pc + 1) L (.double (FP.ddiv a b) :: st) H else none
      | _ => none
    | .f2d => match st with
      | .float a :: st => if FP.f2d a &&& 0x7fffffffffffffff ≤ 0x7ff0000000000000 then nx k (pc + 1) L (.double (FP.f2d a) :: st) H else none
      | _ => none
    | .lcmp => match st with
      | .long b :: .long a :: st => nx k (pc + 1) L (.int (lg_cmp a b) :: st) H
      | _ => none
    | .fcmp op => match st with
      | .float b :: .float a :: st => nx k (pc + 1) L (.int (Op.cmpValue (FP.fcmp a b) op) :: st) H
      | _ => none
    | .dcmp op => match st with
      | .double b :: .double a :: st => nx k (pc + 1) L (.int (Op.cmpValue (FP.dcmp a b) op) :: st) H
      | _ => none
    | .goto _ => nx k x L st H
    | .ifCond c _ => match st with
      | .int a :: st => bif icmp c a 0 then nx k x L st H else nx k (pc + 3) L st H
      | _ => none
    | .if_icmp c _ => match st with
      | .int b :: .int a :: st => bif icmp c a b then nx k x L st H else nx k (pc + 3) L st H
      | _ => none
    | .if_acmp c _ => match st with
      | b :: a :: st => match req H a b, c with
        | some r, .eq => bif r then nx k x L st H else nx k (pc + 3) L st H
        | some r, .ne => bif r then nx k (pc + 3) L st H else nx k x L st H
        | _, _ => none
      | _ => none
    | .ifnull _ => match st with
      | .null :: st => nx k x L st H
      | .ref _ :: st => nx k (pc + 3) L st H
      | _ => none
    | .ifnonnull _ => match st with
      | .null :: st => nx k (pc + 3) L st H
      | .ref _ :: st => nx k x L st H
      | _ => none
    | .tableswitch d lo hi offs => match st with
      | .int a :: st => if a.toInt < lo ∨ hi < a.toInt then (if 0 ≤ (pc : Int) + d then nx k ((pc : Int) + d).toNat L st H else none) else
          match offs[(a.toInt - lo).toNat]? with
          | some o => if 0 ≤ (pc : Int) + o then nx k ((pc : Int) + o).toNat L st H else none
          | none => none
      | _ => none
    | .getfield _ => match st with
      | .ref a :: st => match gfd H x y a with
        | some v => nx k (pc + 3) L (v :: st) H
        | none => none
      | _ => none
    | .putfield _ => match st with
      | v :: .ref a :: st => match pfd H (!(fT x y).2.2.2 || (decide ((mname k).name = "<init>") && decide (mown k = cN x))) x y a v with
        | some H' => nx k (pc + 3) L st H'
        | none => none
      | _ => none
    | .getstatic _ => nx k (pc + 3) L (sV x :: st) H
    | .new _ => if x < 7 then nx k (pc + 3) L (.ref H.2.1 :: st) (hsn H (x, dF x) (fN x)) else if st.length ≤ 4 then some (.inl (.inr (x - 1000), hsx H)) else none
    | .newarray t => match st with
      | .int n :: st => match akind t with
        | some (kd, v) => if n < 0 ∨ 100000 < n.toNatClampNeg then none else nx k (pc + 2) L (.ref H.2.1 :: st) (hsn H (kd, List.replicate n.toNatClampNeg v) n.toNatClampNeg)
        | none => none
      | _ => none
    | .anewarray _ => match st with
      | .int n :: st => if n < 0 ∨ 100000 < n.toNatClampNeg then none else nx k (pc + 3) L (.ref H.2.1 :: st) (hsn H (x, List.replicate n.toNatClampNeg .null) n.toNatClampNeg)
      | _ => none
    | .arraylength => match st with
      | .ref a :: st => match alen H a with
        | some v => nx k (pc + 1) L (v :: st) H
        | none => none
      | _ => none
    | .iaload => match st with
      | .int j :: .ref a :: st => match ald H 100 a j with
        | some v => nx k (pc + 1) L (v :: st) H
        | none => none
      | _ => none
    | .caload => match st with
      | .int j :: .ref a :: st => match ald H 101 a j with
        | some v => nx k (pc + 1) L (v :: st) H
        | none => none
      | _ => none
    | .baload => match st with
      | .int j :: .ref a :: st => match ald H 102 a j with
        | some v => nx k (pc + 1) L (v :: st) H
        | none => none
      | _ => none
    | .laload => match st with
      | .int j :: .ref a :: st => match ald H 103 a j with
        | some v => nx k (pc + 1) L (v :: st) H
        | none => none
      | _ => none
    | .daload => match st with
      | .int j :: .ref a :: st => match ald H 104 a j with
        | some v => nx k (pc + 1) L (v :: st) H
        | none => none
      | _ => none
    | .aaload => match st with
      | .int j :: .ref a :: st => match aald H a j with
        | some v => nx k (pc + 1) L (v :: st) H
        | none => none
      | _ => none
    | .iastore => match st with
      | .int v :: .int j :: .ref a :: st => match ast H 100 a j (.int v) with
        | some H' => nx k (pc + 1) L st H'
        | none => none
      | _ => none
    | .castore => match st with
      | .int v :: .int j :: .ref a :: st => match ast H 101 a j (.int (vp_nar .char v)) with
        | some H' => nx k (pc + 1) L st H'
        | none => none
      | _ => none
    | .bastore => match st with
      | .int v :: .int j :: .ref a :: st => match ast H 102 a j (.int (vp_nar .byte v)) with
        | some H' => nx k (pc + 1) L st H'
        | none => none
      | _ => none
    | .lastore => match st with
      | .long v :: .int j :: .ref a :: st => match ast H 103 a j (.long v) with
        | some H' => nx k (pc + 1) L st H'
        | none => none
      | _ => none
    | .dastore => match st with
      | .double v :: .int j :: .ref a :: st => match ast H 104 a j (.double v) with
        | some H' => nx k (pc + 1) L st H'
        | none => none
      | _ => none
    | .aastore => match st with
      | .ref v :: .int j :: .ref a :: st => match aast H a j v with
        | some H' => nx k (pc + 1) L st H'
        | none => none
      | _ => none
    | .ireturn => match st with
      | [.int v] => if fitp (rtC (mret k)) (.int v) = true then some (.inl (.inl (some (.int v)), H)) else none
      | _ => none
    | .lreturn => match st with
      | [.long v] => if rtC (mret k) = 4 then some (.inl (.inl (some (.long v)), H)) else none
      | _ => none
    | .freturn => match st with
      | [.float v] => if rtC (mret k) = 6 then some (.inl (.inl (some (.float v)), H)) else none
      | _ => none
    | .dreturn => match st with
      | [.double v] => if rtC (mret k) = 7 then some (.inl (.inl (some (.double v)), H)) else none
      | _ => none
    | .areturn => match st with
      | [.ref a] => if rtC (mret k) = 5 then some (.inl (.inl (some (.ref a)), H)) else none
      | [.null] => if rtC (mret k) = 5 then some (.inl (.inl (some .null), H)) else none
      | _ => none
    | .return_ => match st with
      | [] => if mret k = none then some (.inl (.inl none, H)) else none
      | _ => none
    | .invokevirtual _ => match (st.take (marg x)).getLast? with
      | some (.ref b) => if recv H b (u % 100) = true then cal (Nat.beq y 0) k pc L H x st else none
      | _ => none
    | .invokestatic _ =>
      if y = 8 then (match st with
        | .int b :: .int a :: st => if st.length ≤ 4 then nx k (pc + 3) L (.int (if a < b then b else a) :: st) H else none
        | _ => none)
      else if y = 9 then (match st with
        | .int b :: .int a :: st => if st.length ≤ 4 then nx k (pc + 3) L (.int (if b < a then b else a) :: st) H else none
        | _ => none)
      else if y = 10 then (match st with
        | .int a :: st => if st.length ≤ 4 then nx k (pc + 3) L (.int (if 0 ≤ a then a else 0 - a) :: st) H else none
        | _ => none)
      else if y = 11 then (match st with
        | .int n :: .int dp :: .ref d :: .int sp :: .ref s :: st => if st.length ≤ 4 then (match acp H s d sp dp n with
          | some H' => nx k (pc + 3) L st H'
          | none => none) else none
        | _ => none)
      else cal true k pc L H x st
    | .invokespecial _ =>
      if y = 7 then (match st with
        | .ref _ :: st => if st.length ≤ 4 then nx k (pc + 3) L st H else none
        | _ => none)
      else (match (st.take (marg x)).getLast? with
        | some (.ref b) => if y = 4 → recv H b 6 = true then cal false k pc L H x st else none
        | _ => none)
    | _ => none
def stp (c : Cf) : Option SO := stepI c.1 c.2.1 c.2.2.1 c.2.2.2.1 c.2.2.2.2
def ex : Nat → Cf → Option Rs
  | 0, _ => none
  | n + 1, c => match stp c with
    | none => none
    | some (.inl r) => some r
    | some (.inr (.inl c')) => ex n c'
    | some (.inr (.inr (c', f))) => match ex n c' with
      | none => none
      | some r => match f r with
        | none => none
        | some (.inl r') => some r'
        | some (.inr c'') => ex n c''
theorem ex_mono : ∀ (n : Nat) (c : Cf) (r : Rs), ex n c = some r → ex (n + 1) c = some r := by
  intro n
  induction n with
  | zero => intro c r h; cases h
  | succ n ih =>
    intro c r h
    rw [ex] at h ⊢
    split at h
    · cases h
    · exact h
    · exact ih _ _ h
    · next c' f _ =>
      split at h
      · cases h
      · next r1 h1 =>
        rw [ih _ _ h1]
        dsimp only
        split at h
        · cases h
        · exact h
        · exact ih _ _ h
theorem ex_le {n m : Nat} (h : n ≤ m) {c : Cf} {r : Rs} (e : ex n c = some r) : ex m c = some r := by
  induction h with
  | refl => exact e
  | step _ ih => exact ex_mono _ _ _ ih
/-- what a configuration comes to -/
noncomputable def rn (k pc : Nat) (L st : List Value) (H : HS) : Option Rs := @dite (Option Rs) (∃ r n, ex n (k, pc, L, st, H) = some r) (Classical.propDecidable _) (fun h => some h.choose) (fun _ => none)
theorem rn_iff {k pc : Nat} {L st : List Value} {H : HS} {r : Rs} : rn k pc L st H = some r ↔ ∃ n, ex n (k, pc, L, st, H) = some r := by
  unfold rn
  constructor
  · intro h
    split at h
    · next hh =>
      cases h
      exact hh.choose_spec
    · cases h
  · rintro ⟨n, h⟩
    have hh : ∃ r n, ex n (k, pc, L, st, H) = some r := ⟨r, n, h⟩
    rw [dif_pos hh]
    obtain ⟨m, hm⟩ := hh.choose_spec
    have h1 := ex_le (Nat.le_max_left n m) h
    have h2 := ex_le (Nat.le_max_right n m) hm
    rw [h1] at h2
    exact h2.symm
theorem opt_ext {α : Type} {a b : Option α} (h : ∀ r, a = some r ↔ b = some r) : a = b := by
  cases a with
  | none => cases b with
    | none => rfl
    | some y => exact absurd ((h y).mpr rfl) (by simp)
  | some x => exact ((h x).mp rfl).symm
noncomputable def rnc (c : Cf) : Option Rs := rn c.1 c.2.1 c.2.2.1 c.2.2.2.1 c.2.2.2.2
/-- a step that goes on -/
theorem rn_nx {k pc k' pc' : Nat} {L st L' st' : List Value} {H H' : HS} (h : stepI k pc L st H = nx k' pc' L' st' H') : rn k pc L st H = rn k' pc' L' st' H' := by
  refine opt_ext fun r => ?_
  rw [rn_iff, rn_iff]
  constructor
  · rintro ⟨n, e⟩
    cases n with
    | zero => cases e
    | succ n =>
      rw [ex, show stp (k, pc, L, st, H) = _ from h] at e
      exact ⟨n, e⟩
  · rintro ⟨n, e⟩
    refine ⟨n + 1, ?_⟩
    rw [ex, show stp (k, pc, L, st, H) = _ from h]
    exact e
/-- a step that ends -/
theorem rn_end {k pc : Nat} {L st : List Value} {H : HS} {r : Rs} (h : stepI k pc L st H = some (.inl r)) : rn k pc L st H = some r := by
  rw [rn_iff]
  refine ⟨1, ?_⟩
  rw [ex, show stp (k, pc, L, st, H) = _ from h]
/-- a step that can't be made -/
theorem rn_no {k pc : Nat} {L st : List Value} {H : HS} (h : stepI k pc L st H = none) : rn k pc L st H = none := by
  refine opt_ext fun r => ?_
  rw [rn_iff]
  constructor
  · rintro ⟨n, e⟩
    cases n with
    | zero => cases e
    | succ n =>
      rw [ex, show stp (k, pc, L, st, H) = _ from h] at e
      cases e
  · intro e; cases e
/-- what a method answers -/
noncomputable def rcal (y : Nat) (as : List Value) (H : HS) : Option Rs := rn y 0 (eL y as) [] H
/-- behind a call -/
noncomputable def bnd (b : Bool) (k pc : Nat) (L rest : List Value) (r : Option Rs) : Option Rs := match r with
  | none => none
  | some (.inl v, H') => rn k (pc + 3) L (v.toList ++ rest) H'
  | some (.inr e, H') => bif b then (match hfind (mexc k) pc e with
      | some h => rn k h L [.retAddr 9] H'
      | none => some (.inr e, H')) else none
theorem rn_cal {b : Bool} {k pc y : Nat} {L st as rest : List Value} {H : HS} (h : stepI k pc L st H = some (.inr (.inr ((y, 0, eL y as, [], H), aft b k pc L rest)))) : rn k pc L st H = bnd b k pc L rest (rcal y as H) := by
  refine opt_ext fun r => ?_
  rw [rn_iff]
  constructor
  · rintro ⟨n, e⟩
    cases n with
    | zero => cases e
    | succ n =>
      rw [ex, show stp (k, pc, L, st, H) = _ from h] at e
      dsimp only at e
      split at e
      · cases e
      · next r1 h1 =>
        have h2 : rcal y as H = some r1 := rn_iff.mpr ⟨n, h1⟩
        rw [h2]
        obtain ⟨v | a, H'⟩ := r1
        · exact rn_iff.mpr ⟨n, e⟩
        · cases b with
          | false => simp only [aft, cond_false] at e; cases e
          | true =>
            simp only [aft, bnd, cond_true] at e ⊢
            cases hf : hfind (mexc k) pc a with
            | none => rw [hf] at e; exact e
            | some hd => rw [hf] at e; exact rn_iff.mpr ⟨n, e⟩
  · intro e
    cases hr : rcal y as H with
    | none => rw [hr] at e; cases e
    | some r1 =>
      rw [hr] at e
      obtain ⟨n1, h1⟩ := rn_iff.mp hr
      obtain ⟨v | a, H'⟩ := r1
      · obtain ⟨n2, h2⟩ := rn_iff.mp e
        refine ⟨max n1 n2 + 1, ?_⟩
        rw [ex, show stp (k, pc, L, st, H) = _ from h]
        dsimp only
        rw [ex_le (Nat.le_max_left n1 n2) h1]
        exact ex_le (Nat.le_max_right n1 n2) h2
      · cases b with
        | false => simp only [bnd, cond_false] at e; cases e
        | true =>
          simp only [bnd, cond_true] at e
          cases hf : hfind (mexc k) pc a with
          | none =>
            rw [hf] at e
            refine ⟨n1 + 1, ?_⟩
            rw [ex, show stp (k, pc, L, st, H) = _ from h]
            dsimp only
            rw [h1]
            simp only [aft, hf, cond_true]
            exact e
          | some hd =>
            rw [hf] at e
            obtain ⟨n2, h2⟩ := rn_iff.mp e
            refine ⟨max n1 n2 + 1, ?_⟩
            rw [ex, show stp (k, pc, L, st, H) = _ from h]
            dsimp only
            rw [ex_le (Nat.le_max_left n1 n2) h1]
            simp only [aft, hf, cond_true]
            exact ex_le (Nat.le_max_right n1 n2) h2
