def RX7 : String := "SingleTrackLine"
def TX7 : u_T := fun k => match k with
  | 0 => ("SingleTrackLine", "line", "LSingleTrackLine$Line;", true)
  | 1 => ("SingleTrackLine", "saved", "LSingleTrackLine$Line;", true)
  | 2 => ("SingleTrackLine", "forecast", "LSingleTrackLine$Line;", true)
  | 3 => ("SingleTrackLine", "history", "LSingleTrackLine$History;", true)
  | 4 => ("SingleTrackLine", "program", "LSingleTrackLine$Program;", true)
  | 5 => ("SingleTrackLine", "output", "Ljava/lang/StringBuilder;", true)
  | 6 => ("SingleTrackLine", "isSaved", "Z", false)
  | 7 => ("SingleTrackLine", "storedErrorPosition", "I", false)
  | _ => ("SingleTrackLine", "storedFailedCommand", "I", false)
def RX3 : String := "SingleTrackLine$Line"
def TX3 : u_T := fun k => match k with
  | 0 => ("SingleTrackLine$Line", "stationCount", "I", false)
  | 1 => ("SingleTrackLine$Line", "tracks", "[I", true)
  | 2 => ("SingleTrackLine$Line", "runningTimes", "[I", true)
  | 3 => ("SingleTrackLine$Line", "positions", "[I", true)
  | 4 => ("SingleTrackLine$Line", "trains", "[LSingleTrackLine$Train;", true)
  | 5 => ("SingleTrackLine$Line", "trainCount", "I", false)
  | 6 => ("SingleTrackLine$Line", "lastNumber", "I", false)
  | 7 => ("SingleTrackLine$Line", "time", "I", false)
  | 8 => ("SingleTrackLine$Line", "finishedCount", "I", false)
  | 9 => ("SingleTrackLine$Line", "lastFinishedNumber", "I", false)
  | 10 => ("SingleTrackLine$Line", "delaySum", "J", false)
  | 11 => ("SingleTrackLine$Line", "longestDelay", "I", false)
  | _ => ("SingleTrackLine$Line", "punctualCount", "I", false)
def RX6 : String := "SingleTrackLine$Train"
def TX6 : u_T := fun k => match k with
  | 0 => ("SingleTrackLine$Train", "place", "LSingleTrackLine$Place;", false)
  | 1 => ("SingleTrackLine$Train", "number", "I", false)
  | 2 => ("SingleTrackLine$Train", "start", "I", false)
  | 3 => ("SingleTrackLine$Train", "destination", "I", false)
  | 4 => ("SingleTrackLine$Train", "departure", "I", false)
  | 5 => ("SingleTrackLine$Train", "planned", "I", false)
  | 6 => ("SingleTrackLine$Train", "station", "I", false)
  | 7 => ("SingleTrackLine$Train", "section", "I", false)
  | 8 => ("SingleTrackLine$Train", "remaining", "I", false)
  | 9 => ("SingleTrackLine$Train", "isHeld", "Z", false)
  | 10 => ("SingleTrackLine$Train", "waited", "I", false)
  | _ => ("SingleTrackLine$Train", "cameAt", "I", false)
def RX2 : String := "SingleTrackLine$History"
def TX2 : u_T := fun k => match k with
  | 0 => ("SingleTrackLine$History", "states", "[LSingleTrackLine$Line;", true)
  | 1 => ("SingleTrackLine$History", "next", "I", false)
  | _ => ("SingleTrackLine$History", "count", "I", false)
def RX5 : String := "SingleTrackLine$Program"
def TX5 : u_T := fun k => match k with
  | 0 => ("SingleTrackLine$Program", "text", "[C", true)
  | 1 => ("SingleTrackLine$Program", "length", "I", false)
  | 2 => ("SingleTrackLine$Program", "position", "I", false)
  | 3 => ("SingleTrackLine$Program", "commandCount", "I", false)
  | 4 => ("SingleTrackLine$Program", "command", "LSingleTrackLine$Command;", false)
  | 5 => ("SingleTrackLine$Program", "arguments", "[I", true)
  | _ => ("SingleTrackLine$Program", "argumentCount", "I", false)
def RX8 : String := "SingleTrackLineModel"
def TX8 : u_T := fun k => match k with
  | 0 => ("SingleTrackLineModel", "m", "[I", true)
  | 1 => ("SingleTrackLineModel", "aside", "[I", true)
  | 2 => ("SingleTrackLineModel", "thought", "[I", true)
  | 3 => ("SingleTrackLineModel", "saved", "[I", true)
  | 4 => ("SingleTrackLineModel", "isSaved", "Z", false)
  | 5 => ("SingleTrackLineModel", "past", "[I", true)
  | 6 => ("SingleTrackLineModel", "changes", "I", false)
  | 7 => ("SingleTrackLineModel", "errorAt", "I", false)
  | 8 => ("SingleTrackLineModel", "failed", "I", false)
  | 9 => ("SingleTrackLineModel", "thrown", "I", false)
  | 10 => ("SingleTrackLineModel", "input", "[I", true)
  | 11 => ("SingleTrackLineModel", "inputMany", "I", false)
  | 12 => ("SingleTrackLineModel", "came", "[I", true)
  | 13 => ("SingleTrackLineModel", "cameMany", "I", false)
  | 14 => ("SingleTrackLineModel", "letters", "[C", true)
  | 15 => ("SingleTrackLineModel", "begins0", "[I", true)
  | 16 => ("SingleTrackLineModel", "commands", "[I", true)
  | 17 => ("SingleTrackLineModel", "commandMany", "I", false)
  | 18 => ("SingleTrackLineModel", "place0", "I", false)
  | 19 => ("SingleTrackLineModel", "size0", "I", false)
  | 20 => ("SingleTrackLineModel", "isWrong", "Z", false)
  | 21 => ("SingleTrackLineModel", "line", "[I", true)
  | _ => ("SingleTrackLineModel", "lineMany", "I", false)
def RJ4 : String := "java/lang/StringBuilder"
def TJ4 : u_T := fun k => match k with
  | 0 => ("java/lang/AbstractStringBuilder", "value", "[B", false)
  | 1 => ("java/lang/AbstractStringBuilder", "coder", "B", false)
  | 2 => ("java/lang/AbstractStringBuilder", "maybeLatin1", "Z", false)
  | _ => ("java/lang/AbstractStringBuilder", "count", "I", false)
def TStr : u_T := fun k => match k with
  | 0 => ("java/lang/String", "value", "[B", true)
  | _ => ("java/lang/String", "coder", "B", true)
def TCmd : u_T := fun k => match k with
  | 0 => ("java/lang/Enum", "ordinal", "I", true)
  | _ => ("SingleTrackLine$Command", "form", "Ljava/lang/String;", true)
/-- the tables of fields, by the number of the class -/
def fT (c : Nat) : u_T := (bif Nat.blt c 4 then (bif Nat.blt c 2 then (bif Nat.blt c 1 then TX7 else TX3) else (bif Nat.blt c 3 then TX6 else TX2)) else (bif Nat.blt c 6 then (bif Nat.blt c 5 then TX5 else TX8) else (bif Nat.blt c 7 then TJ4 else (bif Nat.blt c 8 then TStr else TCmd))))
def cN (c : Nat) : String := (bif Nat.blt c 4 then (bif Nat.blt c 2 then (bif Nat.blt c 1 then "SingleTrackLine" else "SingleTrackLine$Line") else (bif Nat.blt c 3 then "SingleTrackLine$Train" else "SingleTrackLine$History")) else (bif Nat.blt c 6 then (bif Nat.blt c 5 then "SingleTrackLine$Program" else "SingleTrackLineModel") else (bif Nat.blt c 7 then "java/lang/StringBuilder" else (bif Nat.blt c 8 then "java/lang/String" else "SingleTrackLine$Command"))))
def fN (c : Nat) : Nat := (bif Nat.blt c 4 then (bif Nat.blt c 2 then (bif Nat.blt c 1 then 9 else 13) else (bif Nat.blt c 3 then 12 else 3)) else (bif Nat.blt c 6 then (bif Nat.blt c 5 then 7 else 23) else (bif Nat.blt c 7 then 4 else (bif Nat.blt c 8 then 2 else 2))))
abbrev clsL : List vw_C := [("SingleTrackLine", TX7, 9), ("SingleTrackLine$Line", TX3, 13), ("SingleTrackLine$Train", TX6, 12), ("SingleTrackLine$History", TX2, 3), ("SingleTrackLine$Program", TX5, 7), ("SingleTrackLineModel", TX8, 23), ("java/lang/StringBuilder", TJ4, 4)]
/-- the types of fields: 0 int, 1 boolean, 2 byte, 3 char, 4 long, 5 reference -/
def fC (c : Nat) : List Nat := (bif Nat.blt c 3 then (bif Nat.blt c 1 then [5, 5, 5, 5, 5, 5, 1, 0, 0] else (bif Nat.blt c 2 then [0, 5, 5, 5, 5, 0, 0, 0, 0, 0, 4, 0, 0] else [5, 0, 0, 0, 0, 0, 0, 0, 0, 1, 0, 0])) else (bif Nat.blt c 5 then (bif Nat.blt c 4 then [5, 0, 0] else [5, 0, 0, 0, 5, 5, 0]) else (bif Nat.blt c 6 then [5, 5, 5, 5, 1, 5, 0, 0, 0, 0, 5, 0, 5, 0, 5, 5, 5, 0, 0, 0, 1, 5, 0] else [5, 2, 1, 0])))
def fF (c : Nat) : List FieldType := (bif Nat.blt c 3 then (bif Nat.blt c 1 then [.object "SingleTrackLine$Line", .object "SingleTrackLine$Line", .object "SingleTrackLine$Line", .object "SingleTrackLine$History", .object "SingleTrackLine$Program", .object "java/lang/StringBuilder", .boolean, .int, .int] else (bif Nat.blt c 2 then [.int, .array (.int), .array (.int), .array (.int), .array (.object "SingleTrackLine$Train"), .int, .int, .int, .int, .int, .long, .int, .int] else [.object "SingleTrackLine$Place", .int, .int, .int, .int, .int, .int, .int, .int, .boolean, .int, .int])) else (bif Nat.blt c 5 then (bif Nat.blt c 4 then [.array (.object "SingleTrackLine$Line"), .int, .int] else [.array (.char), .int, .int, .int, .object "SingleTrackLine$Command", .array (.int), .int]) else (bif Nat.blt c 6 then [.array (.int), .array (.int), .array (.int), .array (.int), .boolean, .array (.int), .int, .int, .int, .int, .array (.int), .int, .array (.int), .int, .array (.char), .array (.int), .array (.int), .int, .int, .int, .boolean, .array (.int), .int] else [.array (.byte), .byte, .boolean, .int])))
/-- a new object's fields -/
def dF (c : Nat) : List Value := (bif Nat.blt c 3 then (bif Nat.blt c 1 then [.null, .null, .null, .null, .null, .null, .int 0, .int 0, .int 0] else (bif Nat.blt c 2 then [.int 0, .null, .null, .null, .null, .int 0, .int 0, .int 0, .int 0, .int 0, .long 0, .int 0, .int 0] else [.null, .int 0, .int 0, .int 0, .int 0, .int 0, .int 0, .int 0, .int 0, .int 0, .int 0, .int 0])) else (bif Nat.blt c 5 then (bif Nat.blt c 4 then [.null, .int 0, .int 0] else [.null, .int 0, .int 0, .int 0, .null, .null, .int 0]) else (bif Nat.blt c 6 then [.null, .null, .null, .null, .int 0, .null, .int 0, .int 0, .int 0, .int 0, .null, .int 0, .null, .int 0, .null, .null, .null, .int 0, .int 0, .int 0, .int 0, .null, .int 0] else [.null, .int 0, .int 0, .int 0])))
def eN (c : Nat) : String := (bif Nat.blt c 3 then (bif Nat.blt c 1 then "java/lang/IndexOutOfBoundsException" else (bif Nat.blt c 2 then "java/lang/IllegalArgumentException" else "java/lang/IllegalStateException")) else (bif Nat.blt c 4 then "java/util/NoSuchElementException" else (bif Nat.blt c 5 then "java/lang/ArithmeticException" else "java/lang/UnsupportedOperationException")))
/-- the statics: class, name, descriptor; their values as pure ones -/
def sT (c : Nat) : String × String × String := (bif Nat.blt c 8 then (bif Nat.blt c 4 then (bif Nat.blt c 2 then (bif Nat.blt c 1 then ("SingleTrackLine$Place", "ABSENT", "LSingleTrackLine$Place;") else ("SingleTrackLine$Place", "EXPECTED", "LSingleTrackLine$Place;")) else (bif Nat.blt c 3 then ("SingleTrackLine$Place", "AT_STATION", "LSingleTrackLine$Place;") else ("SingleTrackLine$Place", "IN_SECTION", "LSingleTrackLine$Place;"))) else (bif Nat.blt c 6 then (bif Nat.blt c 5 then ("SingleTrackLine$Command", "STATION", "LSingleTrackLine$Command;") else ("SingleTrackLine$Command", "TRACKS", "LSingleTrackLine$Command;")) else (bif Nat.blt c 7 then ("SingleTrackLine$Command", "TRAIN", "LSingleTrackLine$Command;") else ("SingleTrackLine$Command", "HOLD", "LSingleTrackLine$Command;")))) else (bif Nat.blt c 12 then (bif Nat.blt c 10 then (bif Nat.blt c 9 then ("SingleTrackLine$Command", "GO", "LSingleTrackLine$Command;") else ("SingleTrackLine$Command", "CANCEL", "LSingleTrackLine$Command;")) else (bif Nat.blt c 11 then ("SingleTrackLine$Command", "WAIT", "LSingleTrackLine$Command;") else ("SingleTrackLine", "COMMANDS", "[LSingleTrackLine$Command;"))) else (bif Nat.blt c 14 then (bif Nat.blt c 13 then ("SingleTrackLine$1", "$SwitchMap$SingleTrackLine$Command", "[I") else ("java/lang/String", "COMPACT_STRINGS", "Z")) else (bif Nat.blt c 15 then ("java/lang/Integer", "DigitOnes", "[B") else (bif Nat.blt c 16 then ("java/lang/Integer", "DigitTens", "[B") else ("jdk/internal/util/Preconditions", "SIOOBE_FORMATTER", "Ljava/util/function/BiFunction;"))))))
def sV (c : Nat) : Value := (bif Nat.blt c 8 then (bif Nat.blt c 4 then (bif Nat.blt c 2 then (bif Nat.blt c 1 then .ref 1 else .ref 2) else (bif Nat.blt c 3 then .ref 3 else .ref 4)) else (bif Nat.blt c 6 then (bif Nat.blt c 5 then .ref 5 else .ref 6) else (bif Nat.blt c 7 then .ref 7 else .ref 8))) else (bif Nat.blt c 12 then (bif Nat.blt c 10 then (bif Nat.blt c 9 then .ref 9 else .ref 10) else (bif Nat.blt c 11 then .ref 11 else .ref 12)) else (bif Nat.blt c 14 then (bif Nat.blt c 13 then .ref 13 else .int 1) else (bif Nat.blt c 15 then .ref 28 else (bif Nat.blt c 16 then .ref 29 else .retAddr 1)))))
abbrev En : Type := Instr × Nat × Nat × Nat × Nat
def en (i : Instr) (x y z u : Nat) : Option En := some (i, x, y, z, u)
/-- java/lang/AbstractStringBuilder.<init>(I)V -/
def mc0 (pc : Nat) : Option En := bif Nat.blt pc 39 then (bif Nat.blt pc 18 then
(bif Nat.blt pc 10 then
(bif Nat.blt pc 4 then
(bif Nat.blt pc 1 then
(bif Nat.beq pc 0 then en (.aload_n 0) 0 0 0 0 else none) else
(bif Nat.beq pc 1 then en (.invokespecial 3) 0 7 308 0 else none)) else
(bif Nat.blt pc 7 then
(bif Nat.beq pc 4 then en (.getstatic 18) 13 0 309 0 else none) else
(bif Nat.beq pc 7 then en (.ifCond .eq 18) 25 0 0 0 else none))) else
(bif Nat.blt pc 12 then
(bif Nat.blt pc 11 then
(bif Nat.beq pc 10 then en (.aload_n 0) 0 0 0 0 else none) else
(bif Nat.beq pc 11 then en (.iload_n 1) 0 0 0 0 else none)) else
(bif Nat.blt pc 14 then
(bif Nat.beq pc 12 then en (.newarray .byte) 0 0 0 0 else none) else
(bif Nat.blt pc 17 then
(bif Nat.beq pc 14 then en (.putfield 15) 6 0 318 0 else none) else
(bif Nat.beq pc 17 then en (.aload_n 0) 0 0 0 0 else none))))) else
(bif Nat.blt pc 30 then
(bif Nat.blt pc 22 then
(bif Nat.blt pc 19 then
(bif Nat.beq pc 18 then en (.iconst 0) 0 0 0 0 else none) else
(bif Nat.beq pc 19 then en (.putfield 22) 6 1 319 0 else none)) else
(bif Nat.blt pc 25 then
(bif Nat.beq pc 22 then en (.goto 16) 38 0 0 0 else none) else
(bif Nat.blt pc 26 then
(bif Nat.beq pc 25 then en (.aload_n 0) 0 0 0 0 else none) else
(bif Nat.beq pc 26 then en (.iload_n 1) 0 0 0 0 else none)))) else
(bif Nat.blt pc 34 then
(bif Nat.blt pc 33 then
(bif Nat.beq pc 30 then en (.putfield 15) 6 0 318 0 else none) else
(bif Nat.beq pc 33 then en (.aload_n 0) 0 0 0 0 else none)) else
(bif Nat.blt pc 35 then
(bif Nat.beq pc 34 then en (.iconst 1) 0 0 0 0 else none) else
(bif Nat.blt pc 38 then
(bif Nat.beq pc 35 then en (.putfield 22) 6 1 319 0 else none) else
(bif Nat.beq pc 38 then en (.return_) 0 0 0 0 else none)))))) else none
/-- java/lang/AbstractStringBuilder.ensureCapacityInternal(I)V -/
def mc1 (pc : Nat) : Option En := bif Nat.blt pc 39 then (bif Nat.blt pc 17 then
(bif Nat.blt pc 9 then
(bif Nat.blt pc 4 then
(bif Nat.blt pc 1 then
(bif Nat.beq pc 0 then en (.aload_n 0) 0 0 0 0 else none) else
(bif Nat.beq pc 1 then en (.getfield 15) 6 0 318 0 else none)) else
(bif Nat.blt pc 5 then
(bif Nat.beq pc 4 then en (.arraylength) 0 0 0 0 else none) else
(bif Nat.blt pc 6 then
(bif Nat.beq pc 5 then en (.aload_n 0) 0 0 0 0 else none) else
(bif Nat.beq pc 6 then en (.getfield 22) 6 1 319 0 else none)))) else
(bif Nat.blt pc 12 then
(bif Nat.blt pc 10 then
(bif Nat.beq pc 9 then en (.ishr) 0 0 0 0 else none) else
(bif Nat.blt pc 11 then
(bif Nat.beq pc 10 then en (.istore_n 2) 0 0 0 0 else none) else
(bif Nat.beq pc 11 then en (.iload_n 1) 0 0 0 0 else none))) else
(bif Nat.blt pc 13 then
(bif Nat.beq pc 12 then en (.iload_n 2) 0 0 0 0 else none) else
(bif Nat.blt pc 14 then
(bif Nat.beq pc 13 then en (.isub) 0 0 0 0 else none) else
(bif Nat.beq pc 14 then en (.ifCond .le 24) 38 0 0 0 else none))))) else
(bif Nat.blt pc 27 then
(bif Nat.blt pc 22 then
(bif Nat.blt pc 18 then
(bif Nat.beq pc 17 then en (.aload_n 0) 0 0 0 0 else none) else
(bif Nat.blt pc 19 then
(bif Nat.beq pc 18 then en (.aload_n 0) 0 0 0 0 else none) else
(bif Nat.beq pc 19 then en (.getfield 15) 6 0 318 0 else none))) else
(bif Nat.blt pc 23 then
(bif Nat.beq pc 22 then en (.aload_n 0) 0 0 0 0 else none) else
(bif Nat.blt pc 24 then
(bif Nat.beq pc 23 then en (.iload_n 1) 0 0 0 0 else none) else
(bif Nat.beq pc 24 then en (.invokevirtual 104) 2 0 570 106 else none)))) else
(bif Nat.blt pc 32 then
(bif Nat.blt pc 28 then
(bif Nat.beq pc 27 then en (.aload_n 0) 0 0 0 0 else none) else
(bif Nat.blt pc 31 then
(bif Nat.beq pc 28 then en (.getfield 22) 6 1 319 0 else none) else
(bif Nat.beq pc 31 then en (.ishl) 0 0 0 0 else none))) else
(bif Nat.blt pc 35 then
(bif Nat.beq pc 32 then en (.invokestatic 108) 26 1 583 0 else none) else
(bif Nat.blt pc 38 then
(bif Nat.beq pc 35 then en (.putfield 15) 6 0 318 0 else none) else
(bif Nat.beq pc 38 then en (.return_) 0 0 0 0 else none)))))) else none
/-- java/lang/AbstractStringBuilder.newCapacity(I)I -/
def mc2 (pc : Nat) : Option En := bif Nat.blt pc 59 then (bif Nat.blt pc 22 then
(bif Nat.blt pc 12 then
(bif Nat.blt pc 6 then
(bif Nat.blt pc 4 then
(bif Nat.blt pc 1 then
(bif Nat.beq pc 0 then en (.aload_n 0) 0 0 0 0 else none) else
(bif Nat.beq pc 1 then en (.getfield 15) 6 0 318 0 else none)) else
(bif Nat.blt pc 5 then
(bif Nat.beq pc 4 then en (.arraylength) 0 0 0 0 else none) else
(bif Nat.beq pc 5 then en (.istore_n 2) 0 0 0 0 else none))) else
(bif Nat.blt pc 8 then
(bif Nat.blt pc 7 then
(bif Nat.beq pc 6 then en (.iload_n 1) 0 0 0 0 else none) else
(bif Nat.beq pc 7 then en (.aload_n 0) 0 0 0 0 else none)) else
(bif Nat.blt pc 11 then
(bif Nat.beq pc 8 then en (.getfield 22) 6 1 319 0 else none) else
(bif Nat.beq pc 11 then en (.ishl) 0 0 0 0 else none)))) else
(bif Nat.blt pc 16 then
(bif Nat.blt pc 14 then
(bif Nat.blt pc 13 then
(bif Nat.beq pc 12 then en (.istore_n 3) 0 0 0 0 else none) else
(bif Nat.beq pc 13 then en (.iload_n 3) 0 0 0 0 else none)) else
(bif Nat.blt pc 15 then
(bif Nat.beq pc 14 then en (.iload_n 2) 0 0 0 0 else none) else
(bif Nat.beq pc 15 then en (.isub) 0 0 0 0 else none))) else
(bif Nat.blt pc 19 then
(bif Nat.blt pc 18 then
(bif Nat.beq pc 16 then en (.istore 4) 0 0 0 0 else none) else
(bif Nat.beq pc 18 then en (.iload_n 2) 0 0 0 0 else none)) else
(bif Nat.blt pc 21 then
(bif Nat.beq pc 19 then en (.iload 4) 0 0 0 0 else none) else
(bif Nat.beq pc 21 then en (.iload_n 2) 0 0 0 0 else none))))) else
(bif Nat.blt pc 36 then
(bif Nat.blt pc 28 then
(bif Nat.blt pc 24 then
(bif Nat.blt pc 23 then
(bif Nat.beq pc 22 then en (.iconst 2) 0 0 0 0 else none) else
(bif Nat.beq pc 23 then en (.aload_n 0) 0 0 0 0 else none)) else
(bif Nat.blt pc 27 then
(bif Nat.beq pc 24 then en (.getfield 22) 6 1 319 0 else none) else
(bif Nat.beq pc 27 then en (.ishl) 0 0 0 0 else none))) else
(bif Nat.blt pc 32 then
(bif Nat.blt pc 29 then
(bif Nat.beq pc 28 then en (.iadd) 0 0 0 0 else none) else
(bif Nat.beq pc 29 then en (.invokestatic 114) 28 1 574 0 else none)) else
(bif Nat.blt pc 34 then
(bif Nat.beq pc 32 then en (.istore 5) 0 0 0 0 else none) else
(bif Nat.beq pc 34 then en (.iload 5) 0 0 0 0 else none)))) else
(bif Nat.blt pc 51 then
(bif Nat.blt pc 44 then
(bif Nat.blt pc 38 then
(bif Nat.beq pc 36 then en (.ldc 39) 2147483647 0 582 0 else none) else
(bif Nat.beq pc 38 then en (.if_icmp .ne 13) 51 0 0 0 else none)) else
(bif Nat.blt pc 50 then
(bif Nat.beq pc 44 then en (.dup) 0 0 0 0 else none) else
(bif Nat.beq pc 50 then en (.athrow) 0 0 0 0 else none))) else
(bif Nat.blt pc 54 then
(bif Nat.blt pc 53 then
(bif Nat.beq pc 51 then en (.iload 5) 0 0 0 0 else none) else
(bif Nat.beq pc 53 then en (.aload_n 0) 0 0 0 0 else none)) else
(bif Nat.blt pc 57 then
(bif Nat.beq pc 54 then en (.getfield 22) 6 1 319 0 else none) else
(bif Nat.blt pc 58 then
(bif Nat.beq pc 57 then en (.ishr) 0 0 0 0 else none) else
(bif Nat.beq pc 58 then en (.ireturn) 0 0 0 0 else none))))))) else none
/-- java/lang/AbstractStringBuilder.setLength(I)V -/
def mc3 (pc : Nat) : Option En := bif Nat.blt pc 82 then (bif Nat.blt pc 45 then
(bif Nat.blt pc 23 then
(bif Nat.blt pc 15 then
(bif Nat.blt pc 13 then
(bif Nat.blt pc 1 then
(bif Nat.beq pc 0 then en (.iload_n 1) 0 0 0 0 else none) else
(bif Nat.beq pc 1 then en (.ifCond .ge 12) 13 0 0 0 else none)) else
(bif Nat.blt pc 14 then
(bif Nat.beq pc 13 then en (.aload_n 0) 0 0 0 0 else none) else
(bif Nat.beq pc 14 then en (.iload_n 1) 0 0 0 0 else none))) else
(bif Nat.blt pc 19 then
(bif Nat.blt pc 18 then
(bif Nat.beq pc 15 then en (.invokevirtual 100) 1 0 566 6 else none) else
(bif Nat.beq pc 18 then en (.aload_n 0) 0 0 0 0 else none)) else
(bif Nat.blt pc 22 then
(bif Nat.beq pc 19 then en (.getfield 79) 6 3 322 0 else none) else
(bif Nat.beq pc 22 then en (.iload_n 1) 0 0 0 0 else none)))) else
(bif Nat.blt pc 33 then
(bif Nat.blt pc 27 then
(bif Nat.blt pc 26 then
(bif Nat.beq pc 23 then en (.if_icmp .ge 40) 63 0 0 0 else none) else
(bif Nat.beq pc 26 then en (.aload_n 0) 0 0 0 0 else none)) else
(bif Nat.blt pc 30 then
(bif Nat.beq pc 27 then en (.invokevirtual 83) 7 0 595 59806 else none) else
(bif Nat.beq pc 30 then en (.ifCond .eq 18) 48 0 0 0 else none))) else
(bif Nat.blt pc 37 then
(bif Nat.blt pc 34 then
(bif Nat.beq pc 33 then en (.aload_n 0) 0 0 0 0 else none) else
(bif Nat.beq pc 34 then en (.getfield 15) 6 0 318 0 else none)) else
(bif Nat.blt pc 38 then
(bif Nat.beq pc 37 then en (.aload_n 0) 0 0 0 0 else none) else
(bif Nat.blt pc 41 then
(bif Nat.beq pc 38 then en (.getfield 79) 6 3 322 0 else none) else
(bif Nat.beq pc 41 then en (.iload_n 1) 0 0 0 0 else none)))))) else
(bif Nat.blt pc 67 then
(bif Nat.blt pc 53 then
(bif Nat.blt pc 49 then
(bif Nat.blt pc 48 then
(bif Nat.beq pc 45 then en (.goto 31) 76 0 0 0 else none) else
(bif Nat.beq pc 48 then en (.aload_n 0) 0 0 0 0 else none)) else
(bif Nat.blt pc 52 then
(bif Nat.beq pc 49 then en (.getfield 15) 6 0 318 0 else none) else
(bif Nat.beq pc 52 then en (.aload_n 0) 0 0 0 0 else none))) else
(bif Nat.blt pc 60 then
(bif Nat.blt pc 56 then
(bif Nat.beq pc 53 then en (.getfield 79) 6 3 322 0 else none) else
(bif Nat.beq pc 56 then en (.iload_n 1) 0 0 0 0 else none)) else
(bif Nat.blt pc 63 then
(bif Nat.beq pc 60 then en (.goto 16) 76 0 0 0 else none) else
(bif Nat.blt pc 64 then
(bif Nat.beq pc 63 then en (.aload_n 0) 0 0 0 0 else none) else
(bif Nat.beq pc 64 then en (.getfield 79) 6 3 322 0 else none))))) else
(bif Nat.blt pc 73 then
(bif Nat.blt pc 71 then
(bif Nat.blt pc 68 then
(bif Nat.beq pc 67 then en (.iload_n 1) 0 0 0 0 else none) else
(bif Nat.beq pc 68 then en (.if_icmp .le 8) 76 0 0 0 else none)) else
(bif Nat.blt pc 72 then
(bif Nat.beq pc 71 then en (.aload_n 0) 0 0 0 0 else none) else
(bif Nat.beq pc 72 then en (.iconst 1) 0 0 0 0 else none))) else
(bif Nat.blt pc 77 then
(bif Nat.blt pc 76 then
(bif Nat.beq pc 73 then en (.putfield 73) 6 2 320 0 else none) else
(bif Nat.beq pc 76 then en (.aload_n 0) 0 0 0 0 else none)) else
(bif Nat.blt pc 78 then
(bif Nat.beq pc 77 then en (.iload_n 1) 0 0 0 0 else none) else
(bif Nat.blt pc 81 then
(bif Nat.beq pc 78 then en (.putfield 79) 6 3 322 0 else none) else
(bif Nat.beq pc 81 then en (.return_) 0 0 0 0 else none))))))) else none
/-- java/lang/AbstractStringBuilder.charAt(I)C -/
def mc4 (pc : Nat) : Option En := bif Nat.blt pc 48 then (bif Nat.blt pc 23 then
(bif Nat.blt pc 11 then
(bif Nat.blt pc 5 then
(bif Nat.blt pc 1 then
(bif Nat.beq pc 0 then en (.aload_n 0) 0 0 0 0 else none) else
(bif Nat.blt pc 4 then
(bif Nat.beq pc 1 then en (.getfield 22) 6 1 319 0 else none) else
(bif Nat.beq pc 4 then en (.istore_n 2) 0 0 0 0 else none))) else
(bif Nat.blt pc 9 then
(bif Nat.blt pc 6 then
(bif Nat.beq pc 5 then en (.aload_n 0) 0 0 0 0 else none) else
(bif Nat.beq pc 6 then en (.getfield 15) 6 0 318 0 else none)) else
(bif Nat.blt pc 10 then
(bif Nat.beq pc 9 then en (.astore_n 3) 0 0 0 0 else none) else
(bif Nat.beq pc 10 then en (.aload_n 0) 0 0 0 0 else none)))) else
(bif Nat.blt pc 16 then
(bif Nat.blt pc 14 then
(bif Nat.beq pc 11 then en (.getfield 79) 6 3 322 0 else none) else
(bif Nat.blt pc 15 then
(bif Nat.beq pc 14 then en (.aload_n 3) 0 0 0 0 else none) else
(bif Nat.beq pc 15 then en (.arraylength) 0 0 0 0 else none))) else
(bif Nat.blt pc 18 then
(bif Nat.blt pc 17 then
(bif Nat.beq pc 16 then en (.iload_n 2) 0 0 0 0 else none) else
(bif Nat.beq pc 17 then en (.ishr) 0 0 0 0 else none)) else
(bif Nat.blt pc 21 then
(bif Nat.beq pc 18 then en (.invokestatic 138) 0 9 1464 0 else none) else
(bif Nat.beq pc 21 then en (.istore 4) 0 0 0 0 else none))))) else
(bif Nat.blt pc 35 then
(bif Nat.blt pc 29 then
(bif Nat.blt pc 24 then
(bif Nat.beq pc 23 then en (.iload_n 1) 0 0 0 0 else none) else
(bif Nat.blt pc 26 then
(bif Nat.beq pc 24 then en (.iload 4) 0 0 0 0 else none) else
(bif Nat.beq pc 26 then en (.invokestatic 144) 17 1 1465 0 else none))) else
(bif Nat.blt pc 33 then
(bif Nat.blt pc 30 then
(bif Nat.beq pc 29 then en (.iload_n 2) 0 0 0 0 else none) else
(bif Nat.beq pc 30 then en (.ifCond .ne 12) 42 0 0 0 else none)) else
(bif Nat.blt pc 34 then
(bif Nat.beq pc 33 then en (.aload_n 3) 0 0 0 0 else none) else
(bif Nat.beq pc 34 then en (.iload_n 1) 0 0 0 0 else none)))) else
(bif Nat.blt pc 41 then
(bif Nat.blt pc 39 then
(bif Nat.blt pc 36 then
(bif Nat.beq pc 35 then en (.baload) 0 0 0 0 else none) else
(bif Nat.beq pc 36 then en (.sipush 255) 0 0 0 0 else none)) else
(bif Nat.blt pc 40 then
(bif Nat.beq pc 39 then en (.iand) 0 0 0 0 else none) else
(bif Nat.beq pc 40 then en (.i2c) 0 0 0 0 else none))) else
(bif Nat.blt pc 43 then
(bif Nat.blt pc 42 then
(bif Nat.beq pc 41 then en (.ireturn) 0 0 0 0 else none) else
(bif Nat.beq pc 42 then en (.aload_n 3) 0 0 0 0 else none)) else
(bif Nat.blt pc 47 then
(bif Nat.beq pc 43 then en (.iload_n 1) 0 0 0 0 else none) else
(bif Nat.beq pc 47 then en (.ireturn) 0 0 0 0 else none)))))) else none
/-- java/lang/AbstractStringBuilder.append(C)Ljava/lang/AbstractStringBuilder; -/
def mc5 (pc : Nat) : Option En := bif Nat.blt pc 77 then (bif Nat.blt pc 36 then
(bif Nat.blt pc 18 then
(bif Nat.blt pc 7 then
(bif Nat.blt pc 2 then
(bif Nat.blt pc 1 then
(bif Nat.beq pc 0 then en (.aload_n 0) 0 0 0 0 else none) else
(bif Nat.beq pc 1 then en (.aload_n 0) 0 0 0 0 else none)) else
(bif Nat.blt pc 5 then
(bif Nat.beq pc 2 then en (.getfield 79) 6 3 322 0 else none) else
(bif Nat.blt pc 6 then
(bif Nat.beq pc 5 then en (.iconst 1) 0 0 0 0 else none) else
(bif Nat.beq pc 6 then en (.iadd) 0 0 0 0 else none)))) else
(bif Nat.blt pc 11 then
(bif Nat.blt pc 10 then
(bif Nat.beq pc 7 then en (.invokevirtual 100) 1 0 566 6 else none) else
(bif Nat.beq pc 10 then en (.aload_n 0) 0 0 0 0 else none)) else
(bif Nat.blt pc 14 then
(bif Nat.beq pc 11 then en (.invokevirtual 83) 7 0 595 59806 else none) else
(bif Nat.blt pc 17 then
(bif Nat.beq pc 14 then en (.ifCond .eq 31) 45 0 0 0 else none) else
(bif Nat.beq pc 17 then en (.iload_n 1) 0 0 0 0 else none))))) else
(bif Nat.blt pc 29 then
(bif Nat.blt pc 24 then
(bif Nat.blt pc 21 then
(bif Nat.beq pc 18 then en (.invokestatic 191) 25 1 893 0 else none) else
(bif Nat.beq pc 21 then en (.ifCond .eq 24) 45 0 0 0 else none)) else
(bif Nat.blt pc 25 then
(bif Nat.beq pc 24 then en (.aload_n 0) 0 0 0 0 else none) else
(bif Nat.blt pc 28 then
(bif Nat.beq pc 25 then en (.getfield 15) 6 0 318 0 else none) else
(bif Nat.beq pc 28 then en (.aload_n 0) 0 0 0 0 else none)))) else
(bif Nat.blt pc 33 then
(bif Nat.blt pc 30 then
(bif Nat.beq pc 29 then en (.dup) 0 0 0 0 else none) else
(bif Nat.beq pc 30 then en (.getfield 79) 6 3 322 0 else none)) else
(bif Nat.blt pc 34 then
(bif Nat.beq pc 33 then en (.dup_x1) 0 0 0 0 else none) else
(bif Nat.blt pc 35 then
(bif Nat.beq pc 34 then en (.iconst 1) 0 0 0 0 else none) else
(bif Nat.beq pc 35 then en (.iadd) 0 0 0 0 else none)))))) else
(bif Nat.blt pc 57 then
(bif Nat.blt pc 45 then
(bif Nat.blt pc 40 then
(bif Nat.blt pc 39 then
(bif Nat.beq pc 36 then en (.putfield 79) 6 3 322 0 else none) else
(bif Nat.beq pc 39 then en (.iload_n 1) 0 0 0 0 else none)) else
(bif Nat.blt pc 41 then
(bif Nat.beq pc 40 then en (.i2b) 0 0 0 0 else none) else
(bif Nat.blt pc 42 then
(bif Nat.beq pc 41 then en (.bastore) 0 0 0 0 else none) else
(bif Nat.beq pc 42 then en (.goto 33) 75 0 0 0 else none)))) else
(bif Nat.blt pc 49 then
(bif Nat.blt pc 46 then
(bif Nat.beq pc 45 then en (.aload_n 0) 0 0 0 0 else none) else
(bif Nat.beq pc 46 then en (.invokevirtual 83) 7 0 595 59806 else none)) else
(bif Nat.blt pc 52 then
(bif Nat.beq pc 49 then en (.ifCond .eq 7) 56 0 0 0 else none) else
(bif Nat.blt pc 56 then
(bif Nat.beq pc 52 then en (.aload_n 0) 0 0 0 0 else none) else
(bif Nat.beq pc 56 then en (.aload_n 0) 0 0 0 0 else none))))) else
(bif Nat.blt pc 66 then
(bif Nat.blt pc 61 then
(bif Nat.blt pc 60 then
(bif Nat.beq pc 57 then en (.getfield 15) 6 0 318 0 else none) else
(bif Nat.beq pc 60 then en (.aload_n 0) 0 0 0 0 else none)) else
(bif Nat.blt pc 62 then
(bif Nat.beq pc 61 then en (.dup) 0 0 0 0 else none) else
(bif Nat.blt pc 65 then
(bif Nat.beq pc 62 then en (.getfield 79) 6 3 322 0 else none) else
(bif Nat.beq pc 65 then en (.dup_x1) 0 0 0 0 else none)))) else
(bif Nat.blt pc 71 then
(bif Nat.blt pc 67 then
(bif Nat.beq pc 66 then en (.iconst 1) 0 0 0 0 else none) else
(bif Nat.blt pc 68 then
(bif Nat.beq pc 67 then en (.iadd) 0 0 0 0 else none) else
(bif Nat.beq pc 68 then en (.putfield 79) 6 3 322 0 else none))) else
(bif Nat.blt pc 75 then
(bif Nat.beq pc 71 then en (.iload_n 1) 0 0 0 0 else none) else
(bif Nat.blt pc 76 then
(bif Nat.beq pc 75 then en (.aload_n 0) 0 0 0 0 else none) else
(bif Nat.beq pc 76 then en (.areturn) 0 0 0 0 else none))))))) else none
/-- java/lang/AbstractStringBuilder.append(I)Ljava/lang/AbstractStringBuilder; -/
def mc6 (pc : Nat) : Option En := bif Nat.blt pc 55 then (bif Nat.blt pc 26 then
(bif Nat.blt pc 12 then
(bif Nat.blt pc 6 then
(bif Nat.blt pc 4 then
(bif Nat.blt pc 1 then
(bif Nat.beq pc 0 then en (.aload_n 0) 0 0 0 0 else none) else
(bif Nat.beq pc 1 then en (.getfield 79) 6 3 322 0 else none)) else
(bif Nat.blt pc 5 then
(bif Nat.beq pc 4 then en (.istore_n 2) 0 0 0 0 else none) else
(bif Nat.beq pc 5 then en (.iload_n 2) 0 0 0 0 else none))) else
(bif Nat.blt pc 10 then
(bif Nat.blt pc 7 then
(bif Nat.beq pc 6 then en (.iload_n 1) 0 0 0 0 else none) else
(bif Nat.beq pc 7 then en (.invokestatic 245) 11 1 676 0 else none)) else
(bif Nat.blt pc 11 then
(bif Nat.beq pc 10 then en (.iadd) 0 0 0 0 else none) else
(bif Nat.beq pc 11 then en (.istore_n 3) 0 0 0 0 else none)))) else
(bif Nat.blt pc 18 then
(bif Nat.blt pc 14 then
(bif Nat.blt pc 13 then
(bif Nat.beq pc 12 then en (.aload_n 0) 0 0 0 0 else none) else
(bif Nat.beq pc 13 then en (.iload_n 3) 0 0 0 0 else none)) else
(bif Nat.blt pc 17 then
(bif Nat.beq pc 14 then en (.invokevirtual 100) 1 0 566 6 else none) else
(bif Nat.beq pc 17 then en (.aload_n 0) 0 0 0 0 else none))) else
(bif Nat.blt pc 24 then
(bif Nat.blt pc 21 then
(bif Nat.beq pc 18 then en (.invokevirtual 83) 7 0 595 59806 else none) else
(bif Nat.beq pc 21 then en (.ifCond .eq 16) 37 0 0 0 else none)) else
(bif Nat.blt pc 25 then
(bif Nat.beq pc 24 then en (.iload_n 1) 0 0 0 0 else none) else
(bif Nat.beq pc 25 then en (.iload_n 3) 0 0 0 0 else none))))) else
(bif Nat.blt pc 40 then
(bif Nat.blt pc 34 then
(bif Nat.blt pc 30 then
(bif Nat.blt pc 27 then
(bif Nat.beq pc 26 then en (.aload_n 0) 0 0 0 0 else none) else
(bif Nat.beq pc 27 then en (.getfield 15) 6 0 318 0 else none)) else
(bif Nat.blt pc 33 then
(bif Nat.beq pc 30 then en (.invokestatic 248) 10 1 679 0 else none) else
(bif Nat.beq pc 33 then en (.pop) 0 0 0 0 else none))) else
(bif Nat.blt pc 38 then
(bif Nat.blt pc 37 then
(bif Nat.beq pc 34 then en (.goto 14) 48 0 0 0 else none) else
(bif Nat.beq pc 37 then en (.iload_n 1) 0 0 0 0 else none)) else
(bif Nat.blt pc 39 then
(bif Nat.beq pc 38 then en (.iload_n 2) 0 0 0 0 else none) else
(bif Nat.beq pc 39 then en (.iload_n 3) 0 0 0 0 else none)))) else
(bif Nat.blt pc 49 then
(bif Nat.blt pc 47 then
(bif Nat.blt pc 41 then
(bif Nat.beq pc 40 then en (.aload_n 0) 0 0 0 0 else none) else
(bif Nat.beq pc 41 then en (.getfield 15) 6 0 318 0 else none)) else
(bif Nat.blt pc 48 then
(bif Nat.beq pc 47 then en (.pop) 0 0 0 0 else none) else
(bif Nat.beq pc 48 then en (.aload_n 0) 0 0 0 0 else none))) else
(bif Nat.blt pc 53 then
(bif Nat.blt pc 50 then
(bif Nat.beq pc 49 then en (.iload_n 3) 0 0 0 0 else none) else
(bif Nat.beq pc 50 then en (.putfield 79) 6 3 322 0 else none)) else
(bif Nat.blt pc 54 then
(bif Nat.beq pc 53 then en (.aload_n 0) 0 0 0 0 else none) else
(bif Nat.beq pc 54 then en (.areturn) 0 0 0 0 else none)))))) else none
/-- java/lang/AbstractStringBuilder.isLatin1()Z -/
def mc7 (pc : Nat) : Option En := bif Nat.blt pc 19 then (bif Nat.blt pc 10 then
(bif Nat.blt pc 6 then
(bif Nat.blt pc 3 then
(bif Nat.beq pc 0 then en (.getstatic 18) 13 0 309 0 else none) else
(bif Nat.beq pc 3 then en (.ifCond .eq 14) 17 0 0 0 else none)) else
(bif Nat.blt pc 7 then
(bif Nat.beq pc 6 then en (.aload_n 0) 0 0 0 0 else none) else
(bif Nat.beq pc 7 then en (.getfield 22) 6 1 319 0 else none))) else
(bif Nat.blt pc 14 then
(bif Nat.blt pc 13 then
(bif Nat.beq pc 10 then en (.ifCond .ne 7) 17 0 0 0 else none) else
(bif Nat.beq pc 13 then en (.iconst 1) 0 0 0 0 else none)) else
(bif Nat.blt pc 17 then
(bif Nat.beq pc 14 then en (.goto 4) 18 0 0 0 else none) else
(bif Nat.blt pc 18 then
(bif Nat.beq pc 17 then en (.iconst 0) 0 0 0 0 else none) else
(bif Nat.beq pc 18 then en (.ireturn) 0 0 0 0 else none))))) else none
/-- java/lang/AbstractStringBuilder.length()I -/
def mc8 (pc : Nat) : Option En := bif Nat.blt pc 5 then (bif Nat.blt pc 1 then
(bif Nat.beq pc 0 then en (.aload_n 0) 0 0 0 0 else none) else
(bif Nat.blt pc 4 then
(bif Nat.beq pc 1 then en (.getfield 79) 6 3 322 0 else none) else
(bif Nat.beq pc 4 then en (.ireturn) 0 0 0 0 else none))) else none
/-- java/lang/Enum.ordinal()I -/
def mc9 (pc : Nat) : Option En := bif Nat.blt pc 5 then (bif Nat.blt pc 1 then
(bif Nat.beq pc 0 then en (.aload_n 0) 0 0 0 0 else none) else
(bif Nat.blt pc 4 then
(bif Nat.beq pc 1 then en (.getfield 7) 8 0 1987 0 else none) else
(bif Nat.beq pc 4 then en (.ireturn) 0 0 0 0 else none))) else none
/-- java/lang/Integer.getChars(II[B)I -/
def mc10 (pc : Nat) : Option En := bif Nat.blt pc 121 then (bif Nat.blt pc 56 then
(bif Nat.blt pc 29 then
(bif Nat.blt pc 14 then
(bif Nat.blt pc 7 then
(bif Nat.blt pc 3 then
(bif Nat.blt pc 1 then
(bif Nat.beq pc 0 then en (.iload_n 1) 0 0 0 0 else none) else
(bif Nat.beq pc 1 then en (.istore 5) 0 0 0 0 else none)) else
(bif Nat.blt pc 4 then
(bif Nat.beq pc 3 then en (.iload_n 0) 0 0 0 0 else none) else
(bif Nat.beq pc 4 then en (.ifCond .ge 7) 11 0 0 0 else none))) else
(bif Nat.blt pc 11 then
(bif Nat.blt pc 8 then
(bif Nat.beq pc 7 then en (.iconst 1) 0 0 0 0 else none) else
(bif Nat.beq pc 8 then en (.goto 4) 12 0 0 0 else none)) else
(bif Nat.blt pc 12 then
(bif Nat.beq pc 11 then en (.iconst 0) 0 0 0 0 else none) else
(bif Nat.beq pc 12 then en (.istore 6) 0 0 0 0 else none)))) else
(bif Nat.blt pc 21 then
(bif Nat.blt pc 19 then
(bif Nat.blt pc 16 then
(bif Nat.beq pc 14 then en (.iload 6) 0 0 0 0 else none) else
(bif Nat.beq pc 16 then en (.ifCond .ne 6) 22 0 0 0 else none)) else
(bif Nat.blt pc 20 then
(bif Nat.beq pc 19 then en (.iload_n 0) 0 0 0 0 else none) else
(bif Nat.beq pc 20 then en (.ineg) 0 0 0 0 else none))) else
(bif Nat.blt pc 23 then
(bif Nat.blt pc 22 then
(bif Nat.beq pc 21 then en (.istore_n 0) 0 0 0 0 else none) else
(bif Nat.beq pc 22 then en (.iload_n 0) 0 0 0 0 else none)) else
(bif Nat.blt pc 25 then
(bif Nat.beq pc 23 then en (.bipush (-100)) 0 0 0 0 else none) else
(bif Nat.blt pc 28 then
(bif Nat.beq pc 25 then en (.if_icmp .gt 47) 72 0 0 0 else none) else
(bif Nat.beq pc 28 then en (.iload_n 0) 0 0 0 0 else none)))))) else
(bif Nat.blt pc 41 then
(bif Nat.blt pc 34 then
(bif Nat.blt pc 32 then
(bif Nat.blt pc 31 then
(bif Nat.beq pc 29 then en (.bipush 100) 0 0 0 0 else none) else
(bif Nat.beq pc 31 then en (.idiv) 0 0 0 0 else none)) else
(bif Nat.blt pc 33 then
(bif Nat.beq pc 32 then en (.istore_n 3) 0 0 0 0 else none) else
(bif Nat.beq pc 33 then en (.iload_n 3) 0 0 0 0 else none))) else
(bif Nat.blt pc 37 then
(bif Nat.blt pc 36 then
(bif Nat.beq pc 34 then en (.bipush 100) 0 0 0 0 else none) else
(bif Nat.beq pc 36 then en (.imul) 0 0 0 0 else none)) else
(bif Nat.blt pc 38 then
(bif Nat.beq pc 37 then en (.iload_n 0) 0 0 0 0 else none) else
(bif Nat.blt pc 39 then
(bif Nat.beq pc 38 then en (.isub) 0 0 0 0 else none) else
(bif Nat.beq pc 39 then en (.istore 4) 0 0 0 0 else none))))) else
(bif Nat.blt pc 47 then
(bif Nat.blt pc 43 then
(bif Nat.blt pc 42 then
(bif Nat.beq pc 41 then en (.iload_n 3) 0 0 0 0 else none) else
(bif Nat.beq pc 42 then en (.istore_n 0) 0 0 0 0 else none)) else
(bif Nat.blt pc 44 then
(bif Nat.beq pc 43 then en (.aload_n 2) 0 0 0 0 else none) else
(bif Nat.beq pc 44 then en (.iinc 5 (-1)) 0 0 0 0 else none))) else
(bif Nat.blt pc 52 then
(bif Nat.blt pc 49 then
(bif Nat.beq pc 47 then en (.iload 5) 0 0 0 0 else none) else
(bif Nat.beq pc 49 then en (.getstatic 83) 14 0 682 0 else none)) else
(bif Nat.blt pc 54 then
(bif Nat.beq pc 52 then en (.iload 4) 0 0 0 0 else none) else
(bif Nat.blt pc 55 then
(bif Nat.beq pc 54 then en (.baload) 0 0 0 0 else none) else
(bif Nat.beq pc 55 then en (.bastore) 0 0 0 0 else none))))))) else
(bif Nat.blt pc 88 then
(bif Nat.blt pc 73 then
(bif Nat.blt pc 65 then
(bif Nat.blt pc 60 then
(bif Nat.blt pc 57 then
(bif Nat.beq pc 56 then en (.aload_n 2) 0 0 0 0 else none) else
(bif Nat.beq pc 57 then en (.iinc 5 (-1)) 0 0 0 0 else none)) else
(bif Nat.blt pc 62 then
(bif Nat.beq pc 60 then en (.iload 5) 0 0 0 0 else none) else
(bif Nat.beq pc 62 then en (.getstatic 87) 15 0 684 0 else none))) else
(bif Nat.blt pc 68 then
(bif Nat.blt pc 67 then
(bif Nat.beq pc 65 then en (.iload 4) 0 0 0 0 else none) else
(bif Nat.beq pc 67 then en (.baload) 0 0 0 0 else none)) else
(bif Nat.blt pc 69 then
(bif Nat.beq pc 68 then en (.bastore) 0 0 0 0 else none) else
(bif Nat.blt pc 72 then
(bif Nat.beq pc 69 then en (.goto (-47)) 22 0 0 0 else none) else
(bif Nat.beq pc 72 then en (.aload_n 2) 0 0 0 0 else none))))) else
(bif Nat.blt pc 82 then
(bif Nat.blt pc 78 then
(bif Nat.blt pc 76 then
(bif Nat.beq pc 73 then en (.iinc 5 (-1)) 0 0 0 0 else none) else
(bif Nat.beq pc 76 then en (.iload 5) 0 0 0 0 else none)) else
(bif Nat.blt pc 81 then
(bif Nat.beq pc 78 then en (.getstatic 83) 14 0 682 0 else none) else
(bif Nat.beq pc 81 then en (.iload_n 0) 0 0 0 0 else none))) else
(bif Nat.blt pc 84 then
(bif Nat.blt pc 83 then
(bif Nat.beq pc 82 then en (.ineg) 0 0 0 0 else none) else
(bif Nat.beq pc 83 then en (.baload) 0 0 0 0 else none)) else
(bif Nat.blt pc 85 then
(bif Nat.beq pc 84 then en (.bastore) 0 0 0 0 else none) else
(bif Nat.blt pc 86 then
(bif Nat.beq pc 85 then en (.iload_n 0) 0 0 0 0 else none) else
(bif Nat.beq pc 86 then en (.bipush (-9)) 0 0 0 0 else none)))))) else
(bif Nat.blt pc 104 then
(bif Nat.blt pc 97 then
(bif Nat.blt pc 92 then
(bif Nat.blt pc 91 then
(bif Nat.beq pc 88 then en (.if_icmp .ge 16) 104 0 0 0 else none) else
(bif Nat.beq pc 91 then en (.aload_n 2) 0 0 0 0 else none)) else
(bif Nat.blt pc 95 then
(bif Nat.beq pc 92 then en (.iinc 5 (-1)) 0 0 0 0 else none) else
(bif Nat.beq pc 95 then en (.iload 5) 0 0 0 0 else none))) else
(bif Nat.blt pc 101 then
(bif Nat.blt pc 100 then
(bif Nat.beq pc 97 then en (.getstatic 87) 15 0 684 0 else none) else
(bif Nat.beq pc 100 then en (.iload_n 0) 0 0 0 0 else none)) else
(bif Nat.blt pc 102 then
(bif Nat.beq pc 101 then en (.ineg) 0 0 0 0 else none) else
(bif Nat.blt pc 103 then
(bif Nat.beq pc 102 then en (.baload) 0 0 0 0 else none) else
(bif Nat.beq pc 103 then en (.bastore) 0 0 0 0 else none))))) else
(bif Nat.blt pc 113 then
(bif Nat.blt pc 109 then
(bif Nat.blt pc 106 then
(bif Nat.beq pc 104 then en (.iload 6) 0 0 0 0 else none) else
(bif Nat.beq pc 106 then en (.ifCond .eq 12) 118 0 0 0 else none)) else
(bif Nat.blt pc 110 then
(bif Nat.beq pc 109 then en (.aload_n 2) 0 0 0 0 else none) else
(bif Nat.beq pc 110 then en (.iinc 5 (-1)) 0 0 0 0 else none))) else
(bif Nat.blt pc 117 then
(bif Nat.blt pc 115 then
(bif Nat.beq pc 113 then en (.iload 5) 0 0 0 0 else none) else
(bif Nat.beq pc 115 then en (.bipush 45) 0 0 0 0 else none)) else
(bif Nat.blt pc 118 then
(bif Nat.beq pc 117 then en (.bastore) 0 0 0 0 else none) else
(bif Nat.blt pc 120 then
(bif Nat.beq pc 118 then en (.iload 5) 0 0 0 0 else none) else
(bif Nat.beq pc 120 then en (.ireturn) 0 0 0 0 else none)))))))) else none
/-- java/lang/Integer.stringSize(I)I -/
def mc11 (pc : Nat) : Option En := bif Nat.blt pc 47 then (bif Nat.blt pc 22 then
(bif Nat.blt pc 10 then
(bif Nat.blt pc 6 then
(bif Nat.blt pc 2 then
(bif Nat.blt pc 1 then
(bif Nat.beq pc 0 then en (.iconst 1) 0 0 0 0 else none) else
(bif Nat.beq pc 1 then en (.istore_n 1) 0 0 0 0 else none)) else
(bif Nat.blt pc 3 then
(bif Nat.beq pc 2 then en (.iload_n 0) 0 0 0 0 else none) else
(bif Nat.beq pc 3 then en (.ifCond .lt 8) 11 0 0 0 else none))) else
(bif Nat.blt pc 8 then
(bif Nat.blt pc 7 then
(bif Nat.beq pc 6 then en (.iconst 0) 0 0 0 0 else none) else
(bif Nat.beq pc 7 then en (.istore_n 1) 0 0 0 0 else none)) else
(bif Nat.blt pc 9 then
(bif Nat.beq pc 8 then en (.iload_n 0) 0 0 0 0 else none) else
(bif Nat.beq pc 9 then en (.ineg) 0 0 0 0 else none)))) else
(bif Nat.blt pc 15 then
(bif Nat.blt pc 13 then
(bif Nat.blt pc 11 then
(bif Nat.beq pc 10 then en (.istore_n 0) 0 0 0 0 else none) else
(bif Nat.beq pc 11 then en (.bipush (-10)) 0 0 0 0 else none)) else
(bif Nat.blt pc 14 then
(bif Nat.beq pc 13 then en (.istore_n 2) 0 0 0 0 else none) else
(bif Nat.beq pc 14 then en (.iconst 1) 0 0 0 0 else none))) else
(bif Nat.blt pc 17 then
(bif Nat.blt pc 16 then
(bif Nat.beq pc 15 then en (.istore_n 3) 0 0 0 0 else none) else
(bif Nat.beq pc 16 then en (.iload_n 3) 0 0 0 0 else none)) else
(bif Nat.blt pc 19 then
(bif Nat.beq pc 17 then en (.bipush 10) 0 0 0 0 else none) else
(bif Nat.beq pc 19 then en (.if_icmp .ge 23) 42 0 0 0 else none))))) else
(bif Nat.blt pc 33 then
(bif Nat.blt pc 28 then
(bif Nat.blt pc 24 then
(bif Nat.blt pc 23 then
(bif Nat.beq pc 22 then en (.iload_n 0) 0 0 0 0 else none) else
(bif Nat.beq pc 23 then en (.iload_n 2) 0 0 0 0 else none)) else
(bif Nat.blt pc 27 then
(bif Nat.beq pc 24 then en (.if_icmp .le 7) 31 0 0 0 else none) else
(bif Nat.beq pc 27 then en (.iload_n 3) 0 0 0 0 else none))) else
(bif Nat.blt pc 30 then
(bif Nat.blt pc 29 then
(bif Nat.beq pc 28 then en (.iload_n 1) 0 0 0 0 else none) else
(bif Nat.beq pc 29 then en (.iadd) 0 0 0 0 else none)) else
(bif Nat.blt pc 31 then
(bif Nat.beq pc 30 then en (.ireturn) 0 0 0 0 else none) else
(bif Nat.beq pc 31 then en (.bipush 10) 0 0 0 0 else none)))) else
(bif Nat.blt pc 39 then
(bif Nat.blt pc 35 then
(bif Nat.blt pc 34 then
(bif Nat.beq pc 33 then en (.iload_n 2) 0 0 0 0 else none) else
(bif Nat.beq pc 34 then en (.imul) 0 0 0 0 else none)) else
(bif Nat.blt pc 36 then
(bif Nat.beq pc 35 then en (.istore_n 2) 0 0 0 0 else none) else
(bif Nat.beq pc 36 then en (.iinc 3 1) 0 0 0 0 else none))) else
(bif Nat.blt pc 44 then
(bif Nat.blt pc 42 then
(bif Nat.beq pc 39 then en (.goto (-23)) 16 0 0 0 else none) else
(bif Nat.beq pc 42 then en (.bipush 10) 0 0 0 0 else none)) else
(bif Nat.blt pc 45 then
(bif Nat.beq pc 44 then en (.iload_n 1) 0 0 0 0 else none) else
(bif Nat.blt pc 46 then
(bif Nat.beq pc 45 then en (.iadd) 0 0 0 0 else none) else
(bif Nat.beq pc 46 then en (.ireturn) 0 0 0 0 else none))))))) else none
/-- java/lang/Math.floorMod(II)I -/
def mc12 (pc : Nat) : Option En := bif Nat.blt pc 20 then (bif Nat.blt pc 10 then
(bif Nat.blt pc 4 then
(bif Nat.blt pc 2 then
(bif Nat.blt pc 1 then
(bif Nat.beq pc 0 then en (.iload_n 0) 0 0 0 0 else none) else
(bif Nat.beq pc 1 then en (.iload_n 1) 0 0 0 0 else none)) else
(bif Nat.blt pc 3 then
(bif Nat.beq pc 2 then en (.irem) 0 0 0 0 else none) else
(bif Nat.beq pc 3 then en (.istore_n 2) 0 0 0 0 else none))) else
(bif Nat.blt pc 6 then
(bif Nat.blt pc 5 then
(bif Nat.beq pc 4 then en (.iload_n 0) 0 0 0 0 else none) else
(bif Nat.beq pc 5 then en (.iload_n 1) 0 0 0 0 else none)) else
(bif Nat.blt pc 7 then
(bif Nat.beq pc 6 then en (.ixor) 0 0 0 0 else none) else
(bif Nat.beq pc 7 then en (.ifCond .ge 11) 18 0 0 0 else none)))) else
(bif Nat.blt pc 16 then
(bif Nat.blt pc 14 then
(bif Nat.blt pc 11 then
(bif Nat.beq pc 10 then en (.iload_n 2) 0 0 0 0 else none) else
(bif Nat.beq pc 11 then en (.ifCond .eq 7) 18 0 0 0 else none)) else
(bif Nat.blt pc 15 then
(bif Nat.beq pc 14 then en (.iload_n 2) 0 0 0 0 else none) else
(bif Nat.beq pc 15 then en (.iload_n 1) 0 0 0 0 else none))) else
(bif Nat.blt pc 18 then
(bif Nat.blt pc 17 then
(bif Nat.beq pc 16 then en (.iadd) 0 0 0 0 else none) else
(bif Nat.beq pc 17 then en (.ireturn) 0 0 0 0 else none)) else
(bif Nat.blt pc 19 then
(bif Nat.beq pc 18 then en (.iload_n 2) 0 0 0 0 else none) else
(bif Nat.beq pc 19 then en (.ireturn) 0 0 0 0 else none))))) else none
/-- java/lang/String.length()I -/
def mc13 (pc : Nat) : Option En := bif Nat.blt pc 11 then (bif Nat.blt pc 5 then
(bif Nat.blt pc 1 then
(bif Nat.beq pc 0 then en (.aload_n 0) 0 0 0 0 else none) else
(bif Nat.blt pc 4 then
(bif Nat.beq pc 1 then en (.getfield 9) 7 0 820 0 else none) else
(bif Nat.beq pc 4 then en (.arraylength) 0 0 0 0 else none))) else
(bif Nat.blt pc 9 then
(bif Nat.blt pc 6 then
(bif Nat.beq pc 5 then en (.aload_n 0) 0 0 0 0 else none) else
(bif Nat.beq pc 6 then en (.invokevirtual 335) 15 0 630 63207 else none)) else
(bif Nat.blt pc 10 then
(bif Nat.beq pc 9 then en (.ishr) 0 0 0 0 else none) else
(bif Nat.beq pc 10 then en (.ireturn) 0 0 0 0 else none)))) else none
/-- java/lang/String.charAt(I)C -/
def mc14 (pc : Nat) : Option En := bif Nat.blt pc 25 then (bif Nat.blt pc 12 then
(bif Nat.blt pc 7 then
(bif Nat.blt pc 1 then
(bif Nat.beq pc 0 then en (.aload_n 0) 0 0 0 0 else none) else
(bif Nat.blt pc 4 then
(bif Nat.beq pc 1 then en (.invokevirtual 492) 16 0 1368 137007 else none) else
(bif Nat.beq pc 4 then en (.ifCond .eq 12) 16 0 0 0 else none))) else
(bif Nat.blt pc 8 then
(bif Nat.beq pc 7 then en (.aload_n 0) 0 0 0 0 else none) else
(bif Nat.blt pc 11 then
(bif Nat.beq pc 8 then en (.getfield 9) 7 0 820 0 else none) else
(bif Nat.beq pc 11 then en (.iload_n 1) 0 0 0 0 else none)))) else
(bif Nat.blt pc 17 then
(bif Nat.blt pc 15 then
(bif Nat.beq pc 12 then en (.invokestatic 495) 24 1 1372 0 else none) else
(bif Nat.blt pc 16 then
(bif Nat.beq pc 15 then en (.ireturn) 0 0 0 0 else none) else
(bif Nat.beq pc 16 then en (.aload_n 0) 0 0 0 0 else none))) else
(bif Nat.blt pc 20 then
(bif Nat.beq pc 17 then en (.getfield 9) 7 0 820 0 else none) else
(bif Nat.blt pc 24 then
(bif Nat.beq pc 20 then en (.iload_n 1) 0 0 0 0 else none) else
(bif Nat.beq pc 24 then en (.ireturn) 0 0 0 0 else none))))) else none
/-- java/lang/String.coder()B -/
def mc15 (pc : Nat) : Option En := bif Nat.blt pc 15 then (bif Nat.blt pc 7 then
(bif Nat.blt pc 3 then
(bif Nat.beq pc 0 then en (.getstatic 38) 13 0 634 0 else none) else
(bif Nat.blt pc 6 then
(bif Nat.beq pc 3 then en (.ifCond .eq 10) 13 0 0 0 else none) else
(bif Nat.beq pc 6 then en (.aload_n 0) 0 0 0 0 else none))) else
(bif Nat.blt pc 13 then
(bif Nat.blt pc 10 then
(bif Nat.beq pc 7 then en (.getfield 15) 7 1 821 0 else none) else
(bif Nat.beq pc 10 then en (.goto 4) 14 0 0 0 else none)) else
(bif Nat.blt pc 14 then
(bif Nat.beq pc 13 then en (.iconst 1) 0 0 0 0 else none) else
(bif Nat.beq pc 14 then en (.ireturn) 0 0 0 0 else none)))) else none
/-- java/lang/String.isLatin1()Z -/
def mc16 (pc : Nat) : Option En := bif Nat.blt pc 19 then (bif Nat.blt pc 10 then
(bif Nat.blt pc 6 then
(bif Nat.blt pc 3 then
(bif Nat.beq pc 0 then en (.getstatic 38) 13 0 634 0 else none) else
(bif Nat.beq pc 3 then en (.ifCond .eq 14) 17 0 0 0 else none)) else
(bif Nat.blt pc 7 then
(bif Nat.beq pc 6 then en (.aload_n 0) 0 0 0 0 else none) else
(bif Nat.beq pc 7 then en (.getfield 15) 7 1 821 0 else none))) else
(bif Nat.blt pc 14 then
(bif Nat.blt pc 13 then
(bif Nat.beq pc 10 then en (.ifCond .ne 7) 17 0 0 0 else none) else
(bif Nat.beq pc 13 then en (.iconst 1) 0 0 0 0 else none)) else
(bif Nat.blt pc 17 then
(bif Nat.beq pc 14 then en (.goto 4) 18 0 0 0 else none) else
(bif Nat.blt pc 18 then
(bif Nat.beq pc 17 then en (.iconst 0) 0 0 0 0 else none) else
(bif Nat.beq pc 18 then en (.ireturn) 0 0 0 0 else none))))) else none
/-- java/lang/String.checkIndex(II)V -/
def mc17 (pc : Nat) : Option En := bif Nat.blt pc 10 then (bif Nat.blt pc 5 then
(bif Nat.blt pc 1 then
(bif Nat.beq pc 0 then en (.iload_n 0) 0 0 0 0 else none) else
(bif Nat.blt pc 2 then
(bif Nat.beq pc 1 then en (.iload_n 1) 0 0 0 0 else none) else
(bif Nat.beq pc 2 then en (.getstatic 1053) 16 0 612 0 else none))) else
(bif Nat.blt pc 8 then
(bif Nat.beq pc 5 then en (.invokestatic 1059) 27 1 905 0 else none) else
(bif Nat.blt pc 9 then
(bif Nat.beq pc 8 then en (.pop) 0 0 0 0 else none) else
(bif Nat.beq pc 9 then en (.return_) 0 0 0 0 else none)))) else none
/-- java/lang/StringBuilder.<init>()V -/
def mc18 (pc : Nat) : Option En := bif Nat.blt pc 7 then (bif Nat.blt pc 3 then
(bif Nat.blt pc 1 then
(bif Nat.beq pc 0 then en (.aload_n 0) 0 0 0 0 else none) else
(bif Nat.beq pc 1 then en (.bipush 16) 0 0 0 0 else none)) else
(bif Nat.blt pc 6 then
(bif Nat.beq pc 3 then en (.invokespecial 1) 0 2 305 0 else none) else
(bif Nat.beq pc 6 then en (.return_) 0 0 0 0 else none))) else none
/-- java/lang/StringBuilder.append(C)Ljava/lang/StringBuilder; -/
def mc19 (pc : Nat) : Option En := bif Nat.blt pc 8 then (bif Nat.blt pc 5 then
(bif Nat.blt pc 1 then
(bif Nat.beq pc 0 then en (.aload_n 0) 0 0 0 0 else none) else
(bif Nat.blt pc 2 then
(bif Nat.beq pc 1 then en (.iload_n 1) 0 0 0 0 else none) else
(bif Nat.beq pc 2 then en (.invokespecial 50) 5 4 890 0 else none))) else
(bif Nat.blt pc 6 then
(bif Nat.beq pc 5 then en (.pop) 0 0 0 0 else none) else
(bif Nat.blt pc 7 then
(bif Nat.beq pc 6 then en (.aload_n 0) 0 0 0 0 else none) else
(bif Nat.beq pc 7 then en (.areturn) 0 0 0 0 else none)))) else none
/-- java/lang/StringBuilder.append(I)Ljava/lang/StringBuilder; -/
def mc20 (pc : Nat) : Option En := bif Nat.blt pc 8 then (bif Nat.blt pc 5 then
(bif Nat.blt pc 1 then
(bif Nat.beq pc 0 then en (.aload_n 0) 0 0 0 0 else none) else
(bif Nat.blt pc 2 then
(bif Nat.beq pc 1 then en (.iload_n 1) 0 0 0 0 else none) else
(bif Nat.beq pc 2 then en (.invokespecial 53) 6 4 673 0 else none))) else
(bif Nat.blt pc 6 then
(bif Nat.beq pc 5 then en (.pop) 0 0 0 0 else none) else
(bif Nat.blt pc 7 then
(bif Nat.beq pc 6 then en (.aload_n 0) 0 0 0 0 else none) else
(bif Nat.beq pc 7 then en (.areturn) 0 0 0 0 else none)))) else none
/-- java/lang/StringBuilder.charAt(I)C -/
def mc21 (pc : Nat) : Option En := bif Nat.blt pc 6 then (bif Nat.blt pc 2 then
(bif Nat.blt pc 1 then
(bif Nat.beq pc 0 then en (.aload_n 0) 0 0 0 0 else none) else
(bif Nat.beq pc 1 then en (.iload_n 1) 0 0 0 0 else none)) else
(bif Nat.blt pc 5 then
(bif Nat.beq pc 2 then en (.invokespecial 329) 4 4 1461 0 else none) else
(bif Nat.beq pc 5 then en (.ireturn) 0 0 0 0 else none))) else none
/-- java/lang/StringBuilder.setLength(I)V -/
def mc22 (pc : Nat) : Option En := bif Nat.blt pc 6 then (bif Nat.blt pc 2 then
(bif Nat.blt pc 1 then
(bif Nat.beq pc 0 then en (.aload_n 0) 0 0 0 0 else none) else
(bif Nat.beq pc 1 then en (.iload_n 1) 0 0 0 0 else none)) else
(bif Nat.blt pc 5 then
(bif Nat.beq pc 2 then en (.invokespecial 333) 3 4 544 0 else none) else
(bif Nat.beq pc 5 then en (.return_) 0 0 0 0 else none))) else none
/-- java/lang/StringBuilder.length()I -/
def mc23 (pc : Nat) : Option En := bif Nat.blt pc 5 then (bif Nat.blt pc 1 then
(bif Nat.beq pc 0 then en (.aload_n 0) 0 0 0 0 else none) else
(bif Nat.blt pc 4 then
(bif Nat.beq pc 1 then en (.invokespecial 343) 8 4 718 0 else none) else
(bif Nat.beq pc 4 then en (.ireturn) 0 0 0 0 else none))) else none
/-- java/lang/StringLatin1.charAt([BI)C -/
def mc24 (pc : Nat) : Option En := bif Nat.blt pc 15 then (bif Nat.blt pc 7 then
(bif Nat.blt pc 2 then
(bif Nat.blt pc 1 then
(bif Nat.beq pc 0 then en (.iload_n 1) 0 0 0 0 else none) else
(bif Nat.beq pc 1 then en (.aload_n 0) 0 0 0 0 else none)) else
(bif Nat.blt pc 3 then
(bif Nat.beq pc 2 then en (.arraylength) 0 0 0 0 else none) else
(bif Nat.blt pc 6 then
(bif Nat.beq pc 3 then en (.invokestatic 9) 17 1 1375 0 else none) else
(bif Nat.beq pc 6 then en (.aload_n 0) 0 0 0 0 else none)))) else
(bif Nat.blt pc 12 then
(bif Nat.blt pc 8 then
(bif Nat.beq pc 7 then en (.iload_n 1) 0 0 0 0 else none) else
(bif Nat.blt pc 9 then
(bif Nat.beq pc 8 then en (.baload) 0 0 0 0 else none) else
(bif Nat.beq pc 9 then en (.sipush 255) 0 0 0 0 else none))) else
(bif Nat.blt pc 13 then
(bif Nat.beq pc 12 then en (.iand) 0 0 0 0 else none) else
(bif Nat.blt pc 14 then
(bif Nat.beq pc 13 then en (.i2c) 0 0 0 0 else none) else
(bif Nat.beq pc 14 then en (.ireturn) 0 0 0 0 else none))))) else none
/-- java/lang/StringLatin1.canEncode(C)Z -/
def mc25 (pc : Nat) : Option En := bif Nat.blt pc 13 then (bif Nat.blt pc 7 then
(bif Nat.blt pc 1 then
(bif Nat.beq pc 0 then en (.iload_n 0) 0 0 0 0 else none) else
(bif Nat.blt pc 4 then
(bif Nat.beq pc 1 then en (.sipush 255) 0 0 0 0 else none) else
(bif Nat.beq pc 4 then en (.if_icmp .gt 7) 11 0 0 0 else none))) else
(bif Nat.blt pc 11 then
(bif Nat.blt pc 8 then
(bif Nat.beq pc 7 then en (.iconst 1) 0 0 0 0 else none) else
(bif Nat.beq pc 8 then en (.goto 4) 12 0 0 0 else none)) else
(bif Nat.blt pc 12 then
(bif Nat.beq pc 11 then en (.iconst 0) 0 0 0 0 else none) else
(bif Nat.beq pc 12 then en (.ireturn) 0 0 0 0 else none)))) else none
/-- java/util/Arrays.copyOf([BI)[B -/
def mc26 (pc : Nat) : Option En := bif Nat.blt pc 33 then (bif Nat.blt pc 18 then
(bif Nat.blt pc 10 then
(bif Nat.blt pc 2 then
(bif Nat.blt pc 1 then
(bif Nat.beq pc 0 then en (.iload_n 1) 0 0 0 0 else none) else
(bif Nat.beq pc 1 then en (.aload_n 0) 0 0 0 0 else none)) else
(bif Nat.blt pc 3 then
(bif Nat.beq pc 2 then en (.arraylength) 0 0 0 0 else none) else
(bif Nat.blt pc 6 then
(bif Nat.beq pc 3 then en (.if_icmp .ne 11) 14 0 0 0 else none) else
(bif Nat.beq pc 6 then en (.aload_n 0) 0 0 0 0 else none)))) else
(bif Nat.blt pc 14 then
(bif Nat.blt pc 13 then
(bif Nat.beq pc 10 then en (.checkcast 311) 0 0 0 0 else none) else
(bif Nat.beq pc 13 then en (.areturn) 0 0 0 0 else none)) else
(bif Nat.blt pc 15 then
(bif Nat.beq pc 14 then en (.iload_n 1) 0 0 0 0 else none) else
(bif Nat.blt pc 17 then
(bif Nat.beq pc 15 then en (.newarray .byte) 0 0 0 0 else none) else
(bif Nat.beq pc 17 then en (.astore_n 2) 0 0 0 0 else none))))) else
(bif Nat.blt pc 23 then
(bif Nat.blt pc 20 then
(bif Nat.blt pc 19 then
(bif Nat.beq pc 18 then en (.aload_n 0) 0 0 0 0 else none) else
(bif Nat.beq pc 19 then en (.iconst 0) 0 0 0 0 else none)) else
(bif Nat.blt pc 21 then
(bif Nat.beq pc 20 then en (.aload_n 2) 0 0 0 0 else none) else
(bif Nat.blt pc 22 then
(bif Nat.beq pc 21 then en (.iconst 0) 0 0 0 0 else none) else
(bif Nat.beq pc 22 then en (.aload_n 0) 0 0 0 0 else none)))) else
(bif Nat.blt pc 28 then
(bif Nat.blt pc 24 then
(bif Nat.beq pc 23 then en (.arraylength) 0 0 0 0 else none) else
(bif Nat.blt pc 25 then
(bif Nat.beq pc 24 then en (.iload_n 1) 0 0 0 0 else none) else
(bif Nat.beq pc 25 then en (.invokestatic 304) 0 9 593 0 else none))) else
(bif Nat.blt pc 31 then
(bif Nat.beq pc 28 then en (.invokestatic 150) 0 11 594 0 else none) else
(bif Nat.blt pc 32 then
(bif Nat.beq pc 31 then en (.aload_n 2) 0 0 0 0 else none) else
(bif Nat.beq pc 32 then en (.areturn) 0 0 0 0 else none)))))) else none
/-- jdk/internal/util/Preconditions.checkIndex(IILjava/util/function/BiFunction;)I -/
def mc27 (pc : Nat) : Option En := bif Nat.blt pc 18 then (bif Nat.blt pc 9 then
(bif Nat.blt pc 4 then
(bif Nat.blt pc 1 then
(bif Nat.beq pc 0 then en (.iload_n 0) 0 0 0 0 else none) else
(bif Nat.beq pc 1 then en (.ifCond .lt 8) 9 0 0 0 else none)) else
(bif Nat.blt pc 5 then
(bif Nat.beq pc 4 then en (.iload_n 0) 0 0 0 0 else none) else
(bif Nat.blt pc 6 then
(bif Nat.beq pc 5 then en (.iload_n 1) 0 0 0 0 else none) else
(bif Nat.beq pc 6 then en (.if_icmp .lt 10) 16 0 0 0 else none)))) else
(bif Nat.blt pc 15 then
(bif Nat.blt pc 10 then
(bif Nat.beq pc 9 then en (.aload_n 2) 0 0 0 0 else none) else
(bif Nat.blt pc 11 then
(bif Nat.beq pc 10 then en (.iload_n 0) 0 0 0 0 else none) else
(bif Nat.beq pc 11 then en (.iload_n 1) 0 0 0 0 else none))) else
(bif Nat.blt pc 16 then
(bif Nat.beq pc 15 then en (.athrow) 0 0 0 0 else none) else
(bif Nat.blt pc 17 then
(bif Nat.beq pc 16 then en (.iload_n 0) 0 0 0 0 else none) else
(bif Nat.beq pc 17 then en (.ireturn) 0 0 0 0 else none))))) else none
/-- jdk/internal/util/ArraysSupport.newLength(III)I -/
def mc28 (pc : Nat) : Option En := bif Nat.blt pc 27 then (bif Nat.blt pc 10 then
(bif Nat.blt pc 6 then
(bif Nat.blt pc 2 then
(bif Nat.blt pc 1 then
(bif Nat.beq pc 0 then en (.iload_n 0) 0 0 0 0 else none) else
(bif Nat.beq pc 1 then en (.iload_n 1) 0 0 0 0 else none)) else
(bif Nat.blt pc 3 then
(bif Nat.beq pc 2 then en (.iload_n 2) 0 0 0 0 else none) else
(bif Nat.beq pc 3 then en (.invokestatic 194) 0 8 577 0 else none))) else
(bif Nat.blt pc 8 then
(bif Nat.blt pc 7 then
(bif Nat.beq pc 6 then en (.iadd) 0 0 0 0 else none) else
(bif Nat.beq pc 7 then en (.istore_n 3) 0 0 0 0 else none)) else
(bif Nat.blt pc 9 then
(bif Nat.beq pc 8 then en (.iconst 0) 0 0 0 0 else none) else
(bif Nat.beq pc 9 then en (.iload_n 3) 0 0 0 0 else none)))) else
(bif Nat.blt pc 19 then
(bif Nat.blt pc 14 then
(bif Nat.blt pc 13 then
(bif Nat.beq pc 10 then en (.if_icmp .ge 11) 21 0 0 0 else none) else
(bif Nat.beq pc 13 then en (.iload_n 3) 0 0 0 0 else none)) else
(bif Nat.blt pc 16 then
(bif Nat.beq pc 14 then en (.ldc 200) 2147483639 0 578 0 else none) else
(bif Nat.beq pc 16 then en (.if_icmp .gt 5) 21 0 0 0 else none))) else
(bif Nat.blt pc 21 then
(bif Nat.blt pc 20 then
(bif Nat.beq pc 19 then en (.iload_n 3) 0 0 0 0 else none) else
(bif Nat.beq pc 20 then en (.ireturn) 0 0 0 0 else none)) else
(bif Nat.blt pc 22 then
(bif Nat.beq pc 21 then en (.iload_n 0) 0 0 0 0 else none) else
(bif Nat.blt pc 26 then
(bif Nat.beq pc 22 then en (.iload_n 1) 0 0 0 0 else none) else
(bif Nat.beq pc 26 then en (.ireturn) 0 0 0 0 else none)))))) else none
/-- SingleTrackLine$History.<init>()V -/
def mc29 (pc : Nat) : Option En := bif Nat.blt pc 41 then (bif Nat.blt pc 18 then
(bif Nat.blt pc 10 then
(bif Nat.blt pc 4 then
(bif Nat.blt pc 1 then
(bif Nat.beq pc 0 then en (.aload_n 0) 0 0 0 0 else none) else
(bif Nat.beq pc 1 then en (.invokespecial 3) 0 7 251 0 else none)) else
(bif Nat.blt pc 5 then
(bif Nat.beq pc 4 then en (.aload_n 0) 0 0 0 0 else none) else
(bif Nat.blt pc 7 then
(bif Nat.beq pc 5 then en (.bipush 9) 0 0 0 0 else none) else
(bif Nat.beq pc 7 then en (.anewarray 9) 106 0 252 0 else none)))) else
(bif Nat.blt pc 14 then
(bif Nat.blt pc 13 then
(bif Nat.beq pc 10 then en (.putfield 11) 3 0 255 0 else none) else
(bif Nat.beq pc 13 then en (.iconst 0) 0 0 0 0 else none)) else
(bif Nat.blt pc 15 then
(bif Nat.beq pc 14 then en (.istore_n 1) 0 0 0 0 else none) else
(bif Nat.blt pc 16 then
(bif Nat.beq pc 15 then en (.iload_n 1) 0 0 0 0 else none) else
(bif Nat.beq pc 16 then en (.bipush 8) 0 0 0 0 else none))))) else
(bif Nat.blt pc 29 then
(bif Nat.blt pc 22 then
(bif Nat.blt pc 21 then
(bif Nat.beq pc 18 then en (.if_icmp .gt 22) 40 0 0 0 else none) else
(bif Nat.beq pc 21 then en (.aload_n 0) 0 0 0 0 else none)) else
(bif Nat.blt pc 25 then
(bif Nat.beq pc 22 then en (.getfield 11) 3 0 255 0 else none) else
(bif Nat.blt pc 26 then
(bif Nat.beq pc 25 then en (.iload_n 1) 0 0 0 0 else none) else
(bif Nat.beq pc 26 then en (.new 9) 1 0 252 0 else none)))) else
(bif Nat.blt pc 34 then
(bif Nat.blt pc 30 then
(bif Nat.beq pc 29 then en (.dup) 0 0 0 0 else none) else
(bif Nat.blt pc 33 then
(bif Nat.beq pc 30 then en (.invokespecial 17) 34 2 254 0 else none) else
(bif Nat.beq pc 33 then en (.aastore) 0 0 0 0 else none))) else
(bif Nat.blt pc 37 then
(bif Nat.beq pc 34 then en (.iinc 1 1) 0 0 0 0 else none) else
(bif Nat.blt pc 40 then
(bif Nat.beq pc 37 then en (.goto (-22)) 15 0 0 0 else none) else
(bif Nat.beq pc 40 then en (.return_) 0 0 0 0 else none)))))) else none
/-- SingleTrackLine$History.note(LSingleTrackLine$Line;)V -/
def mc30 (pc : Nat) : Option En := bif Nat.blt pc 14 then (bif Nat.blt pc 8 then
(bif Nat.blt pc 4 then
(bif Nat.blt pc 1 then
(bif Nat.beq pc 0 then en (.aload_n 0) 0 0 0 0 else none) else
(bif Nat.beq pc 1 then en (.getfield 11) 3 0 255 0 else none)) else
(bif Nat.blt pc 5 then
(bif Nat.beq pc 4 then en (.aload_n 0) 0 0 0 0 else none) else
(bif Nat.beq pc 5 then en (.getfield 18) 3 1 256 0 else none))) else
(bif Nat.blt pc 10 then
(bif Nat.blt pc 9 then
(bif Nat.beq pc 8 then en (.aaload) 0 0 0 0 else none) else
(bif Nat.beq pc 9 then en (.aload_n 1) 0 0 0 0 else none)) else
(bif Nat.blt pc 13 then
(bif Nat.beq pc 10 then en (.invokevirtual 22) 35 0 942 38701 else none) else
(bif Nat.beq pc 13 then en (.return_) 0 0 0 0 else none)))) else none
/-- SingleTrackLine$History.noted()LSingleTrackLine$Line; -/
def mc31 (pc : Nat) : Option En := bif Nat.blt pc 10 then (bif Nat.blt pc 5 then
(bif Nat.blt pc 1 then
(bif Nat.beq pc 0 then en (.aload_n 0) 0 0 0 0 else none) else
(bif Nat.blt pc 4 then
(bif Nat.beq pc 1 then en (.getfield 11) 3 0 255 0 else none) else
(bif Nat.beq pc 4 then en (.aload_n 0) 0 0 0 0 else none))) else
(bif Nat.blt pc 8 then
(bif Nat.beq pc 5 then en (.getfield 18) 3 1 256 0 else none) else
(bif Nat.blt pc 9 then
(bif Nat.beq pc 8 then en (.aaload) 0 0 0 0 else none) else
(bif Nat.beq pc 9 then en (.areturn) 0 0 0 0 else none)))) else none
/-- SingleTrackLine$History.keepNoted()V -/
def mc32 (pc : Nat) : Option En := bif Nat.blt pc 31 then (bif Nat.blt pc 15 then
(bif Nat.blt pc 6 then
(bif Nat.blt pc 2 then
(bif Nat.blt pc 1 then
(bif Nat.beq pc 0 then en (.aload_n 0) 0 0 0 0 else none) else
(bif Nat.beq pc 1 then en (.aload_n 0) 0 0 0 0 else none)) else
(bif Nat.blt pc 5 then
(bif Nat.beq pc 2 then en (.getfield 18) 3 1 256 0 else none) else
(bif Nat.beq pc 5 then en (.iconst 1) 0 0 0 0 else none))) else
(bif Nat.blt pc 9 then
(bif Nat.blt pc 7 then
(bif Nat.beq pc 6 then en (.iadd) 0 0 0 0 else none) else
(bif Nat.beq pc 7 then en (.bipush 9) 0 0 0 0 else none)) else
(bif Nat.blt pc 12 then
(bif Nat.beq pc 9 then en (.invokestatic 26) 12 1 1037 0 else none) else
(bif Nat.beq pc 12 then en (.putfield 18) 3 1 256 0 else none)))) else
(bif Nat.blt pc 21 then
(bif Nat.blt pc 17 then
(bif Nat.blt pc 16 then
(bif Nat.beq pc 15 then en (.aload_n 0) 0 0 0 0 else none) else
(bif Nat.beq pc 16 then en (.aload_n 0) 0 0 0 0 else none)) else
(bif Nat.blt pc 20 then
(bif Nat.beq pc 17 then en (.getfield 32) 3 2 257 0 else none) else
(bif Nat.beq pc 20 then en (.iconst 1) 0 0 0 0 else none))) else
(bif Nat.blt pc 24 then
(bif Nat.blt pc 22 then
(bif Nat.beq pc 21 then en (.iadd) 0 0 0 0 else none) else
(bif Nat.beq pc 22 then en (.bipush 8) 0 0 0 0 else none)) else
(bif Nat.blt pc 27 then
(bif Nat.beq pc 24 then en (.invokestatic 35) 0 9 1040 0 else none) else
(bif Nat.blt pc 30 then
(bif Nat.beq pc 27 then en (.putfield 32) 3 2 257 0 else none) else
(bif Nat.beq pc 30 then en (.return_) 0 0 0 0 else none)))))) else none
/-- SingleTrackLine$History.takeLast()LSingleTrackLine$Line; -/
def mc33 (pc : Nat) : Option En := bif Nat.blt pc 35 then (bif Nat.blt pc 17 then
(bif Nat.blt pc 7 then
(bif Nat.blt pc 2 then
(bif Nat.blt pc 1 then
(bif Nat.beq pc 0 then en (.aload_n 0) 0 0 0 0 else none) else
(bif Nat.beq pc 1 then en (.aload_n 0) 0 0 0 0 else none)) else
(bif Nat.blt pc 5 then
(bif Nat.beq pc 2 then en (.getfield 18) 3 1 256 0 else none) else
(bif Nat.blt pc 6 then
(bif Nat.beq pc 5 then en (.iconst 1) 0 0 0 0 else none) else
(bif Nat.beq pc 6 then en (.isub) 0 0 0 0 else none)))) else
(bif Nat.blt pc 12 then
(bif Nat.blt pc 9 then
(bif Nat.beq pc 7 then en (.bipush 9) 0 0 0 0 else none) else
(bif Nat.beq pc 9 then en (.invokestatic 26) 12 1 1037 0 else none)) else
(bif Nat.blt pc 15 then
(bif Nat.beq pc 12 then en (.putfield 18) 3 1 256 0 else none) else
(bif Nat.blt pc 16 then
(bif Nat.beq pc 15 then en (.aload_n 0) 0 0 0 0 else none) else
(bif Nat.beq pc 16 then en (.dup) 0 0 0 0 else none))))) else
(bif Nat.blt pc 26 then
(bif Nat.blt pc 21 then
(bif Nat.blt pc 20 then
(bif Nat.beq pc 17 then en (.getfield 32) 3 2 257 0 else none) else
(bif Nat.beq pc 20 then en (.iconst 1) 0 0 0 0 else none)) else
(bif Nat.blt pc 22 then
(bif Nat.beq pc 21 then en (.isub) 0 0 0 0 else none) else
(bif Nat.blt pc 25 then
(bif Nat.beq pc 22 then en (.putfield 32) 3 2 257 0 else none) else
(bif Nat.beq pc 25 then en (.aload_n 0) 0 0 0 0 else none)))) else
(bif Nat.blt pc 30 then
(bif Nat.blt pc 29 then
(bif Nat.beq pc 26 then en (.getfield 11) 3 0 255 0 else none) else
(bif Nat.beq pc 29 then en (.aload_n 0) 0 0 0 0 else none)) else
(bif Nat.blt pc 33 then
(bif Nat.beq pc 30 then en (.getfield 18) 3 1 256 0 else none) else
(bif Nat.blt pc 34 then
(bif Nat.beq pc 33 then en (.aaload) 0 0 0 0 else none) else
(bif Nat.beq pc 34 then en (.areturn) 0 0 0 0 else none)))))) else none
/-- SingleTrackLine$Line.<init>()V -/
def mc34 (pc : Nat) : Option En := bif Nat.blt pc 65 then (bif Nat.blt pc 31 then
(bif Nat.blt pc 15 then
(bif Nat.blt pc 7 then
(bif Nat.blt pc 4 then
(bif Nat.blt pc 1 then
(bif Nat.beq pc 0 then en (.aload_n 0) 0 0 0 0 else none) else
(bif Nat.beq pc 1 then en (.invokespecial 3) 0 7 124 0 else none)) else
(bif Nat.blt pc 5 then
(bif Nat.beq pc 4 then en (.aload_n 0) 0 0 0 0 else none) else
(bif Nat.beq pc 5 then en (.bipush 7) 0 0 0 0 else none))) else
(bif Nat.blt pc 12 then
(bif Nat.blt pc 9 then
(bif Nat.beq pc 7 then en (.newarray .int) 0 0 0 0 else none) else
(bif Nat.beq pc 9 then en (.putfield 9) 1 1 197 0 else none)) else
(bif Nat.blt pc 13 then
(bif Nat.beq pc 12 then en (.aload_n 0) 0 0 0 0 else none) else
(bif Nat.beq pc 13 then en (.bipush 6) 0 0 0 0 else none)))) else
(bif Nat.blt pc 23 then
(bif Nat.blt pc 20 then
(bif Nat.blt pc 17 then
(bif Nat.beq pc 15 then en (.newarray .int) 0 0 0 0 else none) else
(bif Nat.beq pc 17 then en (.putfield 15) 1 2 199 0 else none)) else
(bif Nat.blt pc 21 then
(bif Nat.beq pc 20 then en (.aload_n 0) 0 0 0 0 else none) else
(bif Nat.beq pc 21 then en (.bipush 7) 0 0 0 0 else none))) else
(bif Nat.blt pc 28 then
(bif Nat.blt pc 25 then
(bif Nat.beq pc 23 then en (.newarray .int) 0 0 0 0 else none) else
(bif Nat.beq pc 25 then en (.putfield 18) 1 3 201 0 else none)) else
(bif Nat.blt pc 29 then
(bif Nat.beq pc 28 then en (.aload_n 0) 0 0 0 0 else none) else
(bif Nat.beq pc 29 then en (.bipush 6) 0 0 0 0 else none))))) else
(bif Nat.blt pc 46 then
(bif Nat.blt pc 39 then
(bif Nat.blt pc 37 then
(bif Nat.blt pc 34 then
(bif Nat.beq pc 31 then en (.anewarray 21) 105 0 125 0 else none) else
(bif Nat.beq pc 34 then en (.putfield 23) 1 4 202 0 else none)) else
(bif Nat.blt pc 38 then
(bif Nat.beq pc 37 then en (.iconst 0) 0 0 0 0 else none) else
(bif Nat.beq pc 38 then en (.istore_n 1) 0 0 0 0 else none))) else
(bif Nat.blt pc 42 then
(bif Nat.blt pc 40 then
(bif Nat.beq pc 39 then en (.iload_n 1) 0 0 0 0 else none) else
(bif Nat.beq pc 40 then en (.bipush 6) 0 0 0 0 else none)) else
(bif Nat.blt pc 45 then
(bif Nat.beq pc 42 then en (.if_icmp .ge 22) 64 0 0 0 else none) else
(bif Nat.beq pc 45 then en (.aload_n 0) 0 0 0 0 else none)))) else
(bif Nat.blt pc 54 then
(bif Nat.blt pc 50 then
(bif Nat.blt pc 49 then
(bif Nat.beq pc 46 then en (.getfield 23) 1 4 202 0 else none) else
(bif Nat.beq pc 49 then en (.iload_n 1) 0 0 0 0 else none)) else
(bif Nat.blt pc 53 then
(bif Nat.beq pc 50 then en (.new 21) 2 0 125 0 else none) else
(bif Nat.beq pc 53 then en (.dup) 0 0 0 0 else none))) else
(bif Nat.blt pc 58 then
(bif Nat.blt pc 57 then
(bif Nat.beq pc 54 then en (.invokespecial 27) 81 6 128 0 else none) else
(bif Nat.beq pc 57 then en (.aastore) 0 0 0 0 else none)) else
(bif Nat.blt pc 61 then
(bif Nat.beq pc 58 then en (.iinc 1 1) 0 0 0 0 else none) else
(bif Nat.blt pc 64 then
(bif Nat.beq pc 61 then en (.goto (-22)) 39 0 0 0 else none) else
(bif Nat.beq pc 64 then en (.return_) 0 0 0 0 else none))))))) else none
/-- SingleTrackLine$Line.copyFrom(LSingleTrackLine$Line;)V -/
def mc35 (pc : Nat) : Option En := bif Nat.blt pc 147 then (bif Nat.blt pc 68 then
(bif Nat.blt pc 35 then
(bif Nat.blt pc 17 then
(bif Nat.blt pc 8 then
(bif Nat.blt pc 2 then
(bif Nat.blt pc 1 then
(bif Nat.beq pc 0 then en (.aload_n 0) 0 0 0 0 else none) else
(bif Nat.beq pc 1 then en (.aload_n 1) 0 0 0 0 else none)) else
(bif Nat.blt pc 5 then
(bif Nat.beq pc 2 then en (.getfield 28) 1 0 195 0 else none) else
(bif Nat.beq pc 5 then en (.putfield 28) 1 0 195 0 else none))) else
(bif Nat.blt pc 12 then
(bif Nat.blt pc 9 then
(bif Nat.beq pc 8 then en (.aload_n 1) 0 0 0 0 else none) else
(bif Nat.beq pc 9 then en (.getfield 9) 1 1 197 0 else none)) else
(bif Nat.blt pc 13 then
(bif Nat.beq pc 12 then en (.iconst 0) 0 0 0 0 else none) else
(bif Nat.blt pc 14 then
(bif Nat.beq pc 13 then en (.aload_n 0) 0 0 0 0 else none) else
(bif Nat.beq pc 14 then en (.getfield 9) 1 1 197 0 else none))))) else
(bif Nat.blt pc 27 then
(bif Nat.blt pc 20 then
(bif Nat.blt pc 18 then
(bif Nat.beq pc 17 then en (.iconst 0) 0 0 0 0 else none) else
(bif Nat.beq pc 18 then en (.bipush 7) 0 0 0 0 else none)) else
(bif Nat.blt pc 23 then
(bif Nat.beq pc 20 then en (.invokestatic 32) 0 11 389 0 else none) else
(bif Nat.blt pc 24 then
(bif Nat.beq pc 23 then en (.aload_n 1) 0 0 0 0 else none) else
(bif Nat.beq pc 24 then en (.getfield 15) 1 2 199 0 else none)))) else
(bif Nat.blt pc 29 then
(bif Nat.blt pc 28 then
(bif Nat.beq pc 27 then en (.iconst 0) 0 0 0 0 else none) else
(bif Nat.beq pc 28 then en (.aload_n 0) 0 0 0 0 else none)) else
(bif Nat.blt pc 32 then
(bif Nat.beq pc 29 then en (.getfield 15) 1 2 199 0 else none) else
(bif Nat.blt pc 33 then
(bif Nat.beq pc 32 then en (.iconst 0) 0 0 0 0 else none) else
(bif Nat.beq pc 33 then en (.bipush 6) 0 0 0 0 else none)))))) else
(bif Nat.blt pc 53 then
(bif Nat.blt pc 43 then
(bif Nat.blt pc 39 then
(bif Nat.blt pc 38 then
(bif Nat.beq pc 35 then en (.invokestatic 32) 0 11 389 0 else none) else
(bif Nat.beq pc 38 then en (.aload_n 1) 0 0 0 0 else none)) else
(bif Nat.blt pc 42 then
(bif Nat.beq pc 39 then en (.getfield 18) 1 3 201 0 else none) else
(bif Nat.beq pc 42 then en (.iconst 0) 0 0 0 0 else none))) else
(bif Nat.blt pc 47 then
(bif Nat.blt pc 44 then
(bif Nat.beq pc 43 then en (.aload_n 0) 0 0 0 0 else none) else
(bif Nat.beq pc 44 then en (.getfield 18) 1 3 201 0 else none)) else
(bif Nat.blt pc 48 then
(bif Nat.beq pc 47 then en (.iconst 0) 0 0 0 0 else none) else
(bif Nat.blt pc 50 then
(bif Nat.beq pc 48 then en (.bipush 7) 0 0 0 0 else none) else
(bif Nat.beq pc 50 then en (.invokestatic 32) 0 11 389 0 else none))))) else
(bif Nat.blt pc 61 then
(bif Nat.blt pc 55 then
(bif Nat.blt pc 54 then
(bif Nat.beq pc 53 then en (.iconst 0) 0 0 0 0 else none) else
(bif Nat.beq pc 54 then en (.istore_n 2) 0 0 0 0 else none)) else
(bif Nat.blt pc 56 then
(bif Nat.beq pc 55 then en (.iload_n 2) 0 0 0 0 else none) else
(bif Nat.blt pc 58 then
(bif Nat.beq pc 56 then en (.bipush 6) 0 0 0 0 else none) else
(bif Nat.beq pc 58 then en (.if_icmp .ge 24) 82 0 0 0 else none)))) else
(bif Nat.blt pc 65 then
(bif Nat.blt pc 62 then
(bif Nat.beq pc 61 then en (.aload_n 0) 0 0 0 0 else none) else
(bif Nat.beq pc 62 then en (.getfield 23) 1 4 202 0 else none)) else
(bif Nat.blt pc 66 then
(bif Nat.beq pc 65 then en (.iload_n 2) 0 0 0 0 else none) else
(bif Nat.blt pc 67 then
(bif Nat.beq pc 66 then en (.aaload) 0 0 0 0 else none) else
(bif Nat.beq pc 67 then en (.aload_n 1) 0 0 0 0 else none))))))) else
(bif Nat.blt pc 107 then
(bif Nat.blt pc 87 then
(bif Nat.blt pc 76 then
(bif Nat.blt pc 72 then
(bif Nat.blt pc 71 then
(bif Nat.beq pc 68 then en (.getfield 23) 1 4 202 0 else none) else
(bif Nat.beq pc 71 then en (.iload_n 2) 0 0 0 0 else none)) else
(bif Nat.blt pc 73 then
(bif Nat.beq pc 72 then en (.aaload) 0 0 0 0 else none) else
(bif Nat.beq pc 73 then en (.invokevirtual 38) 89 0 392 39402 else none))) else
(bif Nat.blt pc 82 then
(bif Nat.blt pc 79 then
(bif Nat.beq pc 76 then en (.iinc 2 1) 0 0 0 0 else none) else
(bif Nat.beq pc 79 then en (.goto (-24)) 55 0 0 0 else none)) else
(bif Nat.blt pc 83 then
(bif Nat.beq pc 82 then en (.aload_n 0) 0 0 0 0 else none) else
(bif Nat.blt pc 84 then
(bif Nat.beq pc 83 then en (.aload_n 1) 0 0 0 0 else none) else
(bif Nat.beq pc 84 then en (.getfield 42) 1 5 204 0 else none))))) else
(bif Nat.blt pc 98 then
(bif Nat.blt pc 91 then
(bif Nat.blt pc 90 then
(bif Nat.beq pc 87 then en (.putfield 42) 1 5 204 0 else none) else
(bif Nat.beq pc 90 then en (.aload_n 0) 0 0 0 0 else none)) else
(bif Nat.blt pc 92 then
(bif Nat.beq pc 91 then en (.aload_n 1) 0 0 0 0 else none) else
(bif Nat.blt pc 95 then
(bif Nat.beq pc 92 then en (.getfield 45) 1 6 206 0 else none) else
(bif Nat.beq pc 95 then en (.putfield 45) 1 6 206 0 else none)))) else
(bif Nat.blt pc 100 then
(bif Nat.blt pc 99 then
(bif Nat.beq pc 98 then en (.aload_n 0) 0 0 0 0 else none) else
(bif Nat.beq pc 99 then en (.aload_n 1) 0 0 0 0 else none)) else
(bif Nat.blt pc 103 then
(bif Nat.beq pc 100 then en (.getfield 48) 1 7 207 0 else none) else
(bif Nat.blt pc 106 then
(bif Nat.beq pc 103 then en (.putfield 48) 1 7 207 0 else none) else
(bif Nat.beq pc 106 then en (.aload_n 0) 0 0 0 0 else none)))))) else
(bif Nat.blt pc 127 then
(bif Nat.blt pc 116 then
(bif Nat.blt pc 111 then
(bif Nat.blt pc 108 then
(bif Nat.beq pc 107 then en (.aload_n 1) 0 0 0 0 else none) else
(bif Nat.beq pc 108 then en (.getfield 51) 1 8 209 0 else none)) else
(bif Nat.blt pc 114 then
(bif Nat.beq pc 111 then en (.putfield 51) 1 8 209 0 else none) else
(bif Nat.blt pc 115 then
(bif Nat.beq pc 114 then en (.aload_n 0) 0 0 0 0 else none) else
(bif Nat.beq pc 115 then en (.aload_n 1) 0 0 0 0 else none)))) else
(bif Nat.blt pc 122 then
(bif Nat.blt pc 119 then
(bif Nat.beq pc 116 then en (.getfield 54) 1 9 211 0 else none) else
(bif Nat.beq pc 119 then en (.putfield 54) 1 9 211 0 else none)) else
(bif Nat.blt pc 123 then
(bif Nat.beq pc 122 then en (.aload_n 0) 0 0 0 0 else none) else
(bif Nat.blt pc 124 then
(bif Nat.beq pc 123 then en (.aload_n 1) 0 0 0 0 else none) else
(bif Nat.beq pc 124 then en (.getfield 57) 1 10 213 0 else none))))) else
(bif Nat.blt pc 138 then
(bif Nat.blt pc 131 then
(bif Nat.blt pc 130 then
(bif Nat.beq pc 127 then en (.putfield 57) 1 10 213 0 else none) else
(bif Nat.beq pc 130 then en (.aload_n 0) 0 0 0 0 else none)) else
(bif Nat.blt pc 132 then
(bif Nat.beq pc 131 then en (.aload_n 1) 0 0 0 0 else none) else
(bif Nat.blt pc 135 then
(bif Nat.beq pc 132 then en (.getfield 61) 1 11 215 0 else none) else
(bif Nat.beq pc 135 then en (.putfield 61) 1 11 215 0 else none)))) else
(bif Nat.blt pc 140 then
(bif Nat.blt pc 139 then
(bif Nat.beq pc 138 then en (.aload_n 0) 0 0 0 0 else none) else
(bif Nat.beq pc 139 then en (.aload_n 1) 0 0 0 0 else none)) else
(bif Nat.blt pc 143 then
(bif Nat.beq pc 140 then en (.getfield 64) 1 12 217 0 else none) else
(bif Nat.blt pc 146 then
(bif Nat.beq pc 143 then en (.putfield 64) 1 12 217 0 else none) else
(bif Nat.beq pc 146 then en (.return_) 0 0 0 0 else none)))))))) else none
/-- SingleTrackLine$Line.carryOut(LSingleTrackLine$Command;III)I -/
def mc36 (pc : Nat) : Option En := bif Nat.blt pc 97 then (bif Nat.blt pc 67 then
(bif Nat.blt pc 54 then
(bif Nat.blt pc 8 then
(bif Nat.blt pc 4 then
(bif Nat.blt pc 3 then
(bif Nat.beq pc 0 then en (.getstatic 67) 12 0 947 0 else none) else
(bif Nat.beq pc 3 then en (.aload_n 1) 0 0 0 0 else none)) else
(bif Nat.blt pc 7 then
(bif Nat.beq pc 4 then en (.invokevirtual 72) 9 3 949 95208 else none) else
(bif Nat.beq pc 7 then en (.iaload) 0 0 0 0 else none))) else
(bif Nat.blt pc 49 then
(bif Nat.blt pc 48 then
(bif Nat.beq pc 8 then en (.tableswitch 83 1 6 #[40, 47, 54, 63, 70, 77]) 40 0 0 0 else none) else
(bif Nat.beq pc 48 then en (.aload_n 0) 0 0 0 0 else none)) else
(bif Nat.blt pc 50 then
(bif Nat.beq pc 49 then en (.iload_n 2) 0 0 0 0 else none) else
(bif Nat.blt pc 51 then
(bif Nat.beq pc 50 then en (.iload_n 3) 0 0 0 0 else none) else
(bif Nat.beq pc 51 then en (.invokevirtual 78) 37 0 955 1401 else none))))) else
(bif Nat.blt pc 61 then
(bif Nat.blt pc 56 then
(bif Nat.blt pc 55 then
(bif Nat.beq pc 54 then en (.ireturn) 0 0 0 0 else none) else
(bif Nat.beq pc 55 then en (.aload_n 0) 0 0 0 0 else none)) else
(bif Nat.blt pc 57 then
(bif Nat.beq pc 56 then en (.iload_n 2) 0 0 0 0 else none) else
(bif Nat.blt pc 58 then
(bif Nat.beq pc 57 then en (.iload_n 3) 0 0 0 0 else none) else
(bif Nat.beq pc 58 then en (.invokevirtual 82) 38 0 962 1501 else none)))) else
(bif Nat.blt pc 63 then
(bif Nat.blt pc 62 then
(bif Nat.beq pc 61 then en (.ireturn) 0 0 0 0 else none) else
(bif Nat.beq pc 62 then en (.aload_n 0) 0 0 0 0 else none)) else
(bif Nat.blt pc 64 then
(bif Nat.beq pc 63 then en (.iload_n 2) 0 0 0 0 else none) else
(bif Nat.blt pc 65 then
(bif Nat.beq pc 64 then en (.iload_n 3) 0 0 0 0 else none) else
(bif Nat.beq pc 65 then en (.iload 4) 0 0 0 0 else none)))))) else
(bif Nat.blt pc 81 then
(bif Nat.blt pc 74 then
(bif Nat.blt pc 71 then
(bif Nat.blt pc 70 then
(bif Nat.beq pc 67 then en (.invokevirtual 85) 39 0 966 1601 else none) else
(bif Nat.beq pc 70 then en (.ireturn) 0 0 0 0 else none)) else
(bif Nat.blt pc 72 then
(bif Nat.beq pc 71 then en (.aload_n 0) 0 0 0 0 else none) else
(bif Nat.blt pc 73 then
(bif Nat.beq pc 72 then en (.iload_n 2) 0 0 0 0 else none) else
(bif Nat.beq pc 73 then en (.iconst 1) 0 0 0 0 else none)))) else
(bif Nat.blt pc 78 then
(bif Nat.blt pc 77 then
(bif Nat.beq pc 74 then en (.invokevirtual 89) 40 0 970 1701 else none) else
(bif Nat.beq pc 77 then en (.ireturn) 0 0 0 0 else none)) else
(bif Nat.blt pc 79 then
(bif Nat.beq pc 78 then en (.aload_n 0) 0 0 0 0 else none) else
(bif Nat.blt pc 80 then
(bif Nat.beq pc 79 then en (.iload_n 2) 0 0 0 0 else none) else
(bif Nat.beq pc 80 then en (.iconst 0) 0 0 0 0 else none))))) else
(bif Nat.blt pc 90 then
(bif Nat.blt pc 85 then
(bif Nat.blt pc 84 then
(bif Nat.beq pc 81 then en (.invokevirtual 89) 40 0 970 1701 else none) else
(bif Nat.beq pc 84 then en (.ireturn) 0 0 0 0 else none)) else
(bif Nat.blt pc 86 then
(bif Nat.beq pc 85 then en (.aload_n 0) 0 0 0 0 else none) else
(bif Nat.blt pc 87 then
(bif Nat.beq pc 86 then en (.iload_n 2) 0 0 0 0 else none) else
(bif Nat.beq pc 87 then en (.invokevirtual 93) 41 0 974 1801 else none)))) else
(bif Nat.blt pc 92 then
(bif Nat.blt pc 91 then
(bif Nat.beq pc 90 then en (.ireturn) 0 0 0 0 else none) else
(bif Nat.beq pc 91 then en (.aload_n 0) 0 0 0 0 else none)) else
(bif Nat.blt pc 93 then
(bif Nat.beq pc 92 then en (.iload_n 2) 0 0 0 0 else none) else
(bif Nat.blt pc 96 then
(bif Nat.beq pc 93 then en (.invokevirtual 97) 42 0 978 1901 else none) else
(bif Nat.beq pc 96 then en (.ireturn) 0 0 0 0 else none))))))) else none
/-- SingleTrackLine$Line.putStation(II)I -/
def mc37 (pc : Nat) : Option En := bif Nat.blt pc 83 then (bif Nat.blt pc 46 then
(bif Nat.blt pc 25 then
(bif Nat.blt pc 12 then
(bif Nat.blt pc 7 then
(bif Nat.blt pc 1 then
(bif Nat.beq pc 0 then en (.iload_n 1) 0 0 0 0 else none) else
(bif Nat.blt pc 4 then
(bif Nat.beq pc 1 then en (.invokestatic 100) 57 1 959 0 else none) else
(bif Nat.beq pc 4 then en (.ifCond .eq 14) 18 0 0 0 else none))) else
(bif Nat.blt pc 8 then
(bif Nat.beq pc 7 then en (.iload_n 2) 0 0 0 0 else none) else
(bif Nat.blt pc 9 then
(bif Nat.beq pc 8 then en (.iconst 1) 0 0 0 0 else none) else
(bif Nat.beq pc 9 then en (.if_icmp .lt 9) 18 0 0 0 else none)))) else
(bif Nat.blt pc 18 then
(bif Nat.blt pc 13 then
(bif Nat.beq pc 12 then en (.iload_n 2) 0 0 0 0 else none) else
(bif Nat.blt pc 15 then
(bif Nat.beq pc 13 then en (.bipush 30) 0 0 0 0 else none) else
(bif Nat.beq pc 15 then en (.if_icmp .le 6) 21 0 0 0 else none))) else
(bif Nat.blt pc 21 then
(bif Nat.blt pc 20 then
(bif Nat.beq pc 18 then en (.bipush (-2)) 0 0 0 0 else none) else
(bif Nat.beq pc 20 then en (.ireturn) 0 0 0 0 else none)) else
(bif Nat.blt pc 22 then
(bif Nat.beq pc 21 then en (.aload_n 0) 0 0 0 0 else none) else
(bif Nat.beq pc 22 then en (.getfield 28) 1 0 195 0 else none))))) else
(bif Nat.blt pc 35 then
(bif Nat.blt pc 29 then
(bif Nat.blt pc 26 then
(bif Nat.beq pc 25 then en (.istore_n 3) 0 0 0 0 else none) else
(bif Nat.blt pc 27 then
(bif Nat.beq pc 26 then en (.iload_n 3) 0 0 0 0 else none) else
(bif Nat.beq pc 27 then en (.bipush 7) 0 0 0 0 else none))) else
(bif Nat.blt pc 32 then
(bif Nat.beq pc 29 then en (.if_icmp .lt 6) 35 0 0 0 else none) else
(bif Nat.blt pc 34 then
(bif Nat.beq pc 32 then en (.bipush (-3)) 0 0 0 0 else none) else
(bif Nat.beq pc 34 then en (.ireturn) 0 0 0 0 else none)))) else
(bif Nat.blt pc 40 then
(bif Nat.blt pc 36 then
(bif Nat.beq pc 35 then en (.aload_n 0) 0 0 0 0 else none) else
(bif Nat.blt pc 39 then
(bif Nat.beq pc 36 then en (.getfield 9) 1 1 197 0 else none) else
(bif Nat.beq pc 39 then en (.iload_n 3) 0 0 0 0 else none))) else
(bif Nat.blt pc 42 then
(bif Nat.blt pc 41 then
(bif Nat.beq pc 40 then en (.iload_n 1) 0 0 0 0 else none) else
(bif Nat.beq pc 41 then en (.iastore) 0 0 0 0 else none)) else
(bif Nat.blt pc 43 then
(bif Nat.beq pc 42 then en (.iload_n 3) 0 0 0 0 else none) else
(bif Nat.beq pc 43 then en (.ifCond .le 28) 71 0 0 0 else none)))))) else
(bif Nat.blt pc 65 then
(bif Nat.blt pc 54 then
(bif Nat.blt pc 51 then
(bif Nat.blt pc 47 then
(bif Nat.beq pc 46 then en (.aload_n 0) 0 0 0 0 else none) else
(bif Nat.blt pc 50 then
(bif Nat.beq pc 47 then en (.getfield 15) 1 2 199 0 else none) else
(bif Nat.beq pc 50 then en (.iload_n 3) 0 0 0 0 else none))) else
(bif Nat.blt pc 52 then
(bif Nat.beq pc 51 then en (.iconst 1) 0 0 0 0 else none) else
(bif Nat.blt pc 53 then
(bif Nat.beq pc 52 then en (.isub) 0 0 0 0 else none) else
(bif Nat.beq pc 53 then en (.iload_n 2) 0 0 0 0 else none)))) else
(bif Nat.blt pc 59 then
(bif Nat.blt pc 55 then
(bif Nat.beq pc 54 then en (.iastore) 0 0 0 0 else none) else
(bif Nat.blt pc 56 then
(bif Nat.beq pc 55 then en (.aload_n 0) 0 0 0 0 else none) else
(bif Nat.beq pc 56 then en (.getfield 18) 1 3 201 0 else none))) else
(bif Nat.blt pc 61 then
(bif Nat.blt pc 60 then
(bif Nat.beq pc 59 then en (.iload_n 3) 0 0 0 0 else none) else
(bif Nat.beq pc 60 then en (.aload_n 0) 0 0 0 0 else none)) else
(bif Nat.blt pc 64 then
(bif Nat.beq pc 61 then en (.getfield 18) 1 3 201 0 else none) else
(bif Nat.beq pc 64 then en (.iload_n 3) 0 0 0 0 else none))))) else
(bif Nat.blt pc 72 then
(bif Nat.blt pc 68 then
(bif Nat.blt pc 66 then
(bif Nat.beq pc 65 then en (.iconst 1) 0 0 0 0 else none) else
(bif Nat.blt pc 67 then
(bif Nat.beq pc 66 then en (.isub) 0 0 0 0 else none) else
(bif Nat.beq pc 67 then en (.iaload) 0 0 0 0 else none))) else
(bif Nat.blt pc 70 then
(bif Nat.blt pc 69 then
(bif Nat.beq pc 68 then en (.iload_n 2) 0 0 0 0 else none) else
(bif Nat.beq pc 69 then en (.iadd) 0 0 0 0 else none)) else
(bif Nat.blt pc 71 then
(bif Nat.beq pc 70 then en (.iastore) 0 0 0 0 else none) else
(bif Nat.beq pc 71 then en (.aload_n 0) 0 0 0 0 else none)))) else
(bif Nat.blt pc 77 then
(bif Nat.blt pc 73 then
(bif Nat.beq pc 72 then en (.dup) 0 0 0 0 else none) else
(bif Nat.blt pc 76 then
(bif Nat.beq pc 73 then en (.getfield 28) 1 0 195 0 else none) else
(bif Nat.beq pc 76 then en (.iconst 1) 0 0 0 0 else none))) else
(bif Nat.blt pc 81 then
(bif Nat.blt pc 78 then
(bif Nat.beq pc 77 then en (.iadd) 0 0 0 0 else none) else
(bif Nat.beq pc 78 then en (.putfield 28) 1 0 195 0 else none)) else
(bif Nat.blt pc 82 then
(bif Nat.beq pc 81 then en (.iload_n 3) 0 0 0 0 else none) else
(bif Nat.beq pc 82 then en (.ireturn) 0 0 0 0 else none))))))) else none
/-- SingleTrackLine$Line.changeTracks(II)I -/
def mc38 (pc : Nat) : Option En := bif Nat.blt pc 50 then (bif Nat.blt pc 27 then
(bif Nat.blt pc 14 then
(bif Nat.blt pc 8 then
(bif Nat.blt pc 2 then
(bif Nat.blt pc 1 then
(bif Nat.beq pc 0 then en (.aload_n 0) 0 0 0 0 else none) else
(bif Nat.beq pc 1 then en (.iload_n 1) 0 0 0 0 else none)) else
(bif Nat.blt pc 5 then
(bif Nat.beq pc 2 then en (.invokevirtual 104) 55 0 511 51301 else none) else
(bif Nat.beq pc 5 then en (.ifCond .ne 5) 10 0 0 0 else none))) else
(bif Nat.blt pc 10 then
(bif Nat.blt pc 9 then
(bif Nat.beq pc 8 then en (.iconst (-1)) 0 0 0 0 else none) else
(bif Nat.beq pc 9 then en (.ireturn) 0 0 0 0 else none)) else
(bif Nat.blt pc 11 then
(bif Nat.beq pc 10 then en (.iload_n 2) 0 0 0 0 else none) else
(bif Nat.beq pc 11 then en (.invokestatic 100) 57 1 959 0 else none)))) else
(bif Nat.blt pc 21 then
(bif Nat.blt pc 19 then
(bif Nat.blt pc 17 then
(bif Nat.beq pc 14 then en (.ifCond .ne 6) 20 0 0 0 else none) else
(bif Nat.beq pc 17 then en (.bipush (-2)) 0 0 0 0 else none)) else
(bif Nat.blt pc 20 then
(bif Nat.beq pc 19 then en (.ireturn) 0 0 0 0 else none) else
(bif Nat.beq pc 20 then en (.aload_n 0) 0 0 0 0 else none))) else
(bif Nat.blt pc 25 then
(bif Nat.blt pc 24 then
(bif Nat.beq pc 21 then en (.getfield 9) 1 1 197 0 else none) else
(bif Nat.beq pc 24 then en (.iload_n 1) 0 0 0 0 else none)) else
(bif Nat.blt pc 26 then
(bif Nat.beq pc 25 then en (.iaload) 0 0 0 0 else none) else
(bif Nat.beq pc 26 then en (.istore_n 3) 0 0 0 0 else none))))) else
(bif Nat.blt pc 40 then
(bif Nat.blt pc 33 then
(bif Nat.blt pc 29 then
(bif Nat.blt pc 28 then
(bif Nat.beq pc 27 then en (.iload_n 3) 0 0 0 0 else none) else
(bif Nat.beq pc 28 then en (.aload_n 0) 0 0 0 0 else none)) else
(bif Nat.blt pc 30 then
(bif Nat.beq pc 29 then en (.iload_n 1) 0 0 0 0 else none) else
(bif Nat.beq pc 30 then en (.invokevirtual 107) 60 0 438 44001 else none))) else
(bif Nat.blt pc 35 then
(bif Nat.blt pc 34 then
(bif Nat.beq pc 33 then en (.isub) 0 0 0 0 else none) else
(bif Nat.beq pc 34 then en (.iload_n 2) 0 0 0 0 else none)) else
(bif Nat.blt pc 38 then
(bif Nat.beq pc 35 then en (.if_icmp .le 6) 41 0 0 0 else none) else
(bif Nat.beq pc 38 then en (.bipush (-3)) 0 0 0 0 else none)))) else
(bif Nat.blt pc 46 then
(bif Nat.blt pc 42 then
(bif Nat.blt pc 41 then
(bif Nat.beq pc 40 then en (.ireturn) 0 0 0 0 else none) else
(bif Nat.beq pc 41 then en (.aload_n 0) 0 0 0 0 else none)) else
(bif Nat.blt pc 45 then
(bif Nat.beq pc 42 then en (.getfield 9) 1 1 197 0 else none) else
(bif Nat.beq pc 45 then en (.iload_n 1) 0 0 0 0 else none))) else
(bif Nat.blt pc 48 then
(bif Nat.blt pc 47 then
(bif Nat.beq pc 46 then en (.iload_n 2) 0 0 0 0 else none) else
(bif Nat.beq pc 47 then en (.iastore) 0 0 0 0 else none)) else
(bif Nat.blt pc 49 then
(bif Nat.beq pc 48 then en (.iload_n 3) 0 0 0 0 else none) else
(bif Nat.beq pc 49 then en (.ireturn) 0 0 0 0 else none)))))) else none
/-- SingleTrackLine$Line.putTrain(III)I -/
def mc39 (pc : Nat) : Option En := bif Nat.blt pc 186 then (bif Nat.blt pc 90 then
(bif Nat.blt pc 43 then
(bif Nat.blt pc 20 then
(bif Nat.blt pc 10 then
(bif Nat.blt pc 5 then
(bif Nat.blt pc 1 then
(bif Nat.beq pc 0 then en (.aload_n 0) 0 0 0 0 else none) else
(bif Nat.blt pc 2 then
(bif Nat.beq pc 1 then en (.iload_n 1) 0 0 0 0 else none) else
(bif Nat.beq pc 2 then en (.invokevirtual 104) 55 0 511 51301 else none))) else
(bif Nat.blt pc 8 then
(bif Nat.beq pc 5 then en (.ifCond .eq 11) 16 0 0 0 else none) else
(bif Nat.blt pc 9 then
(bif Nat.beq pc 8 then en (.aload_n 0) 0 0 0 0 else none) else
(bif Nat.beq pc 9 then en (.iload_n 2) 0 0 0 0 else none)))) else
(bif Nat.blt pc 17 then
(bif Nat.blt pc 13 then
(bif Nat.beq pc 10 then en (.invokevirtual 104) 55 0 511 51301 else none) else
(bif Nat.blt pc 16 then
(bif Nat.beq pc 13 then en (.ifCond .ne 5) 18 0 0 0 else none) else
(bif Nat.beq pc 16 then en (.iconst (-1)) 0 0 0 0 else none))) else
(bif Nat.blt pc 18 then
(bif Nat.beq pc 17 then en (.ireturn) 0 0 0 0 else none) else
(bif Nat.blt pc 19 then
(bif Nat.beq pc 18 then en (.iload_n 1) 0 0 0 0 else none) else
(bif Nat.beq pc 19 then en (.iload_n 2) 0 0 0 0 else none))))) else
(bif Nat.blt pc 31 then
(bif Nat.blt pc 25 then
(bif Nat.blt pc 23 then
(bif Nat.beq pc 20 then en (.if_icmp .eq 14) 34 0 0 0 else none) else
(bif Nat.blt pc 24 then
(bif Nat.beq pc 23 then en (.iload_n 3) 0 0 0 0 else none) else
(bif Nat.beq pc 24 then en (.iconst 1) 0 0 0 0 else none))) else
(bif Nat.blt pc 28 then
(bif Nat.beq pc 25 then en (.if_icmp .lt 9) 34 0 0 0 else none) else
(bif Nat.blt pc 29 then
(bif Nat.beq pc 28 then en (.iload_n 3) 0 0 0 0 else none) else
(bif Nat.beq pc 29 then en (.bipush 99) 0 0 0 0 else none)))) else
(bif Nat.blt pc 37 then
(bif Nat.blt pc 34 then
(bif Nat.beq pc 31 then en (.if_icmp .le 6) 37 0 0 0 else none) else
(bif Nat.blt pc 36 then
(bif Nat.beq pc 34 then en (.bipush (-2)) 0 0 0 0 else none) else
(bif Nat.beq pc 36 then en (.ireturn) 0 0 0 0 else none))) else
(bif Nat.blt pc 38 then
(bif Nat.beq pc 37 then en (.aload_n 0) 0 0 0 0 else none) else
(bif Nat.blt pc 41 then
(bif Nat.beq pc 38 then en (.getfield 42) 1 5 204 0 else none) else
(bif Nat.beq pc 41 then en (.bipush 6) 0 0 0 0 else none)))))) else
(bif Nat.blt pc 64 then
(bif Nat.blt pc 54 then
(bif Nat.blt pc 49 then
(bif Nat.blt pc 46 then
(bif Nat.beq pc 43 then en (.if_icmp .lt 6) 49 0 0 0 else none) else
(bif Nat.blt pc 48 then
(bif Nat.beq pc 46 then en (.bipush (-3)) 0 0 0 0 else none) else
(bif Nat.beq pc 48 then en (.ireturn) 0 0 0 0 else none))) else
(bif Nat.blt pc 50 then
(bif Nat.beq pc 49 then en (.aload_n 0) 0 0 0 0 else none) else
(bif Nat.blt pc 51 then
(bif Nat.beq pc 50 then en (.dup) 0 0 0 0 else none) else
(bif Nat.beq pc 51 then en (.getfield 45) 1 6 206 0 else none)))) else
(bif Nat.blt pc 59 then
(bif Nat.blt pc 55 then
(bif Nat.beq pc 54 then en (.iconst 1) 0 0 0 0 else none) else
(bif Nat.blt pc 56 then
(bif Nat.beq pc 55 then en (.iadd) 0 0 0 0 else none) else
(bif Nat.beq pc 56 then en (.putfield 45) 1 6 206 0 else none))) else
(bif Nat.blt pc 60 then
(bif Nat.beq pc 59 then en (.aload_n 0) 0 0 0 0 else none) else
(bif Nat.blt pc 63 then
(bif Nat.beq pc 60 then en (.getfield 23) 1 4 202 0 else none) else
(bif Nat.beq pc 63 then en (.aload_n 0) 0 0 0 0 else none))))) else
(bif Nat.blt pc 75 then
(bif Nat.blt pc 70 then
(bif Nat.blt pc 67 then
(bif Nat.beq pc 64 then en (.getfield 42) 1 5 204 0 else none) else
(bif Nat.blt pc 68 then
(bif Nat.beq pc 67 then en (.aaload) 0 0 0 0 else none) else
(bif Nat.beq pc 68 then en (.astore 4) 0 0 0 0 else none))) else
(bif Nat.blt pc 71 then
(bif Nat.beq pc 70 then en (.aload_n 0) 0 0 0 0 else none) else
(bif Nat.blt pc 72 then
(bif Nat.beq pc 71 then en (.dup) 0 0 0 0 else none) else
(bif Nat.beq pc 72 then en (.getfield 42) 1 5 204 0 else none)))) else
(bif Nat.blt pc 80 then
(bif Nat.blt pc 76 then
(bif Nat.beq pc 75 then en (.iconst 1) 0 0 0 0 else none) else
(bif Nat.blt pc 77 then
(bif Nat.beq pc 76 then en (.iadd) 0 0 0 0 else none) else
(bif Nat.beq pc 77 then en (.putfield 42) 1 5 204 0 else none))) else
(bif Nat.blt pc 85 then
(bif Nat.blt pc 82 then
(bif Nat.beq pc 80 then en (.aload 4) 0 0 0 0 else none) else
(bif Nat.beq pc 82 then en (.getstatic 110) 1 0 436 0 else none)) else
(bif Nat.blt pc 88 then
(bif Nat.beq pc 85 then en (.putfield 116) 2 0 135 0 else none) else
(bif Nat.beq pc 88 then en (.aload 4) 0 0 0 0 else none))))))) else
(bif Nat.blt pc 136 then
(bif Nat.blt pc 115 then
(bif Nat.blt pc 103 then
(bif Nat.blt pc 97 then
(bif Nat.blt pc 91 then
(bif Nat.beq pc 90 then en (.aload_n 0) 0 0 0 0 else none) else
(bif Nat.blt pc 94 then
(bif Nat.beq pc 91 then en (.getfield 45) 1 6 206 0 else none) else
(bif Nat.beq pc 94 then en (.putfield 119) 2 1 137 0 else none))) else
(bif Nat.blt pc 99 then
(bif Nat.beq pc 97 then en (.aload 4) 0 0 0 0 else none) else
(bif Nat.blt pc 100 then
(bif Nat.beq pc 99 then en (.iload_n 1) 0 0 0 0 else none) else
(bif Nat.beq pc 100 then en (.putfield 122) 2 2 141 0 else none)))) else
(bif Nat.blt pc 109 then
(bif Nat.blt pc 105 then
(bif Nat.beq pc 103 then en (.aload 4) 0 0 0 0 else none) else
(bif Nat.blt pc 106 then
(bif Nat.beq pc 105 then en (.iload_n 2) 0 0 0 0 else none) else
(bif Nat.beq pc 106 then en (.putfield 125) 2 3 144 0 else none))) else
(bif Nat.blt pc 111 then
(bif Nat.beq pc 109 then en (.aload 4) 0 0 0 0 else none) else
(bif Nat.blt pc 112 then
(bif Nat.beq pc 111 then en (.aload_n 0) 0 0 0 0 else none) else
(bif Nat.beq pc 112 then en (.getfield 48) 1 7 207 0 else none))))) else
(bif Nat.blt pc 127 then
(bif Nat.blt pc 120 then
(bif Nat.blt pc 116 then
(bif Nat.beq pc 115 then en (.iload_n 3) 0 0 0 0 else none) else
(bif Nat.blt pc 117 then
(bif Nat.beq pc 116 then en (.iadd) 0 0 0 0 else none) else
(bif Nat.beq pc 117 then en (.putfield 128) 2 4 146 0 else none))) else
(bif Nat.blt pc 122 then
(bif Nat.beq pc 120 then en (.aload 4) 0 0 0 0 else none) else
(bif Nat.blt pc 124 then
(bif Nat.beq pc 122 then en (.aload 4) 0 0 0 0 else none) else
(bif Nat.beq pc 124 then en (.getfield 128) 2 4 146 0 else none)))) else
(bif Nat.blt pc 130 then
(bif Nat.blt pc 128 then
(bif Nat.beq pc 127 then en (.aload_n 0) 0 0 0 0 else none) else
(bif Nat.blt pc 129 then
(bif Nat.beq pc 128 then en (.iload_n 1) 0 0 0 0 else none) else
(bif Nat.beq pc 129 then en (.iload_n 2) 0 0 0 0 else none))) else
(bif Nat.blt pc 134 then
(bif Nat.blt pc 133 then
(bif Nat.beq pc 130 then en (.invokevirtual 131) 61 0 503 50501 else none) else
(bif Nat.beq pc 133 then en (.iadd) 0 0 0 0 else none)) else
(bif Nat.blt pc 135 then
(bif Nat.beq pc 134 then en (.iload_n 2) 0 0 0 0 else none) else
(bif Nat.beq pc 135 then en (.iload_n 1) 0 0 0 0 else none)))))) else
(bif Nat.blt pc 159 then
(bif Nat.blt pc 147 then
(bif Nat.blt pc 141 then
(bif Nat.blt pc 137 then
(bif Nat.beq pc 136 then en (.isub) 0 0 0 0 else none) else
(bif Nat.blt pc 140 then
(bif Nat.beq pc 137 then en (.invokestatic 134) 0 10 515 0 else none) else
(bif Nat.beq pc 140 then en (.iadd) 0 0 0 0 else none))) else
(bif Nat.blt pc 144 then
(bif Nat.beq pc 141 then en (.putfield 139) 2 5 149 0 else none) else
(bif Nat.blt pc 146 then
(bif Nat.beq pc 144 then en (.aload 4) 0 0 0 0 else none) else
(bif Nat.beq pc 146 then en (.iconst (-1)) 0 0 0 0 else none)))) else
(bif Nat.blt pc 153 then
(bif Nat.blt pc 150 then
(bif Nat.beq pc 147 then en (.putfield 142) 2 6 153 0 else none) else
(bif Nat.blt pc 152 then
(bif Nat.beq pc 150 then en (.aload 4) 0 0 0 0 else none) else
(bif Nat.beq pc 152 then en (.iconst (-1)) 0 0 0 0 else none))) else
(bif Nat.blt pc 156 then
(bif Nat.beq pc 153 then en (.putfield 145) 2 7 156 0 else none) else
(bif Nat.blt pc 158 then
(bif Nat.beq pc 156 then en (.aload 4) 0 0 0 0 else none) else
(bif Nat.beq pc 158 then en (.iconst 0) 0 0 0 0 else none))))) else
(bif Nat.blt pc 171 then
(bif Nat.blt pc 165 then
(bif Nat.blt pc 162 then
(bif Nat.beq pc 159 then en (.putfield 148) 2 8 159 0 else none) else
(bif Nat.blt pc 164 then
(bif Nat.beq pc 162 then en (.aload 4) 0 0 0 0 else none) else
(bif Nat.beq pc 164 then en (.iconst 0) 0 0 0 0 else none))) else
(bif Nat.blt pc 168 then
(bif Nat.beq pc 165 then en (.putfield 151) 2 9 161 0 else none) else
(bif Nat.blt pc 170 then
(bif Nat.beq pc 168 then en (.aload 4) 0 0 0 0 else none) else
(bif Nat.beq pc 170 then en (.iconst 0) 0 0 0 0 else none)))) else
(bif Nat.blt pc 177 then
(bif Nat.blt pc 174 then
(bif Nat.beq pc 171 then en (.putfield 155) 2 10 164 0 else none) else
(bif Nat.blt pc 176 then
(bif Nat.beq pc 174 then en (.aload 4) 0 0 0 0 else none) else
(bif Nat.beq pc 176 then en (.iconst (-1)) 0 0 0 0 else none))) else
(bif Nat.blt pc 182 then
(bif Nat.blt pc 180 then
(bif Nat.beq pc 177 then en (.putfield 158) 2 11 168 0 else none) else
(bif Nat.beq pc 180 then en (.aload 4) 0 0 0 0 else none)) else
(bif Nat.blt pc 185 then
(bif Nat.beq pc 182 then en (.getfield 119) 2 1 137 0 else none) else
(bif Nat.beq pc 185 then en (.ireturn) 0 0 0 0 else none)))))))) else none
/-- SingleTrackLine$Line.changeHolding(IZ)I -/
def mc40 (pc : Nat) : Option En := bif Nat.blt pc 88 then (bif Nat.blt pc 38 then
(bif Nat.blt pc 18 then
(bif Nat.blt pc 7 then
(bif Nat.blt pc 2 then
(bif Nat.blt pc 1 then
(bif Nat.beq pc 0 then en (.aload_n 0) 0 0 0 0 else none) else
(bif Nat.beq pc 1 then en (.iload_n 1) 0 0 0 0 else none)) else
(bif Nat.blt pc 5 then
(bif Nat.beq pc 2 then en (.invokevirtual 161) 58 0 535 37501 else none) else
(bif Nat.blt pc 6 then
(bif Nat.beq pc 5 then en (.astore_n 3) 0 0 0 0 else none) else
(bif Nat.beq pc 6 then en (.aload_n 3) 0 0 0 0 else none)))) else
(bif Nat.blt pc 13 then
(bif Nat.blt pc 10 then
(bif Nat.beq pc 7 then en (.ifnonnull 6) 13 0 0 0 else none) else
(bif Nat.blt pc 12 then
(bif Nat.beq pc 10 then en (.bipush (-4)) 0 0 0 0 else none) else
(bif Nat.beq pc 12 then en (.ireturn) 0 0 0 0 else none))) else
(bif Nat.blt pc 14 then
(bif Nat.beq pc 13 then en (.aload_n 3) 0 0 0 0 else none) else
(bif Nat.blt pc 17 then
(bif Nat.beq pc 14 then en (.getfield 151) 2 9 161 0 else none) else
(bif Nat.beq pc 17 then en (.iload_n 2) 0 0 0 0 else none))))) else
(bif Nat.blt pc 26 then
(bif Nat.blt pc 23 then
(bif Nat.blt pc 21 then
(bif Nat.beq pc 18 then en (.if_icmp .ne 6) 24 0 0 0 else none) else
(bif Nat.beq pc 21 then en (.bipush (-3)) 0 0 0 0 else none)) else
(bif Nat.blt pc 24 then
(bif Nat.beq pc 23 then en (.ireturn) 0 0 0 0 else none) else
(bif Nat.blt pc 25 then
(bif Nat.beq pc 24 then en (.aload_n 3) 0 0 0 0 else none) else
(bif Nat.beq pc 25 then en (.iload_n 2) 0 0 0 0 else none)))) else
(bif Nat.blt pc 32 then
(bif Nat.blt pc 29 then
(bif Nat.beq pc 26 then en (.putfield 151) 2 9 161 0 else none) else
(bif Nat.blt pc 30 then
(bif Nat.beq pc 29 then en (.iconst 0) 0 0 0 0 else none) else
(bif Nat.beq pc 30 then en (.istore 4) 0 0 0 0 else none))) else
(bif Nat.blt pc 33 then
(bif Nat.beq pc 32 then en (.aload_n 0) 0 0 0 0 else none) else
(bif Nat.blt pc 36 then
(bif Nat.beq pc 33 then en (.getfield 23) 1 4 202 0 else none) else
(bif Nat.beq pc 36 then en (.astore 5) 0 0 0 0 else none)))))) else
(bif Nat.blt pc 58 then
(bif Nat.blt pc 46 then
(bif Nat.blt pc 41 then
(bif Nat.blt pc 40 then
(bif Nat.beq pc 38 then en (.aload 5) 0 0 0 0 else none) else
(bif Nat.beq pc 40 then en (.arraylength) 0 0 0 0 else none)) else
(bif Nat.blt pc 43 then
(bif Nat.beq pc 41 then en (.istore 6) 0 0 0 0 else none) else
(bif Nat.blt pc 44 then
(bif Nat.beq pc 43 then en (.iconst 0) 0 0 0 0 else none) else
(bif Nat.beq pc 44 then en (.istore 7) 0 0 0 0 else none)))) else
(bif Nat.blt pc 53 then
(bif Nat.blt pc 48 then
(bif Nat.beq pc 46 then en (.iload 7) 0 0 0 0 else none) else
(bif Nat.blt pc 50 then
(bif Nat.beq pc 48 then en (.iload 6) 0 0 0 0 else none) else
(bif Nat.beq pc 50 then en (.if_icmp .ge 35) 85 0 0 0 else none))) else
(bif Nat.blt pc 55 then
(bif Nat.beq pc 53 then en (.aload 5) 0 0 0 0 else none) else
(bif Nat.blt pc 57 then
(bif Nat.beq pc 55 then en (.iload 7) 0 0 0 0 else none) else
(bif Nat.beq pc 57 then en (.aaload) 0 0 0 0 else none))))) else
(bif Nat.blt pc 73 then
(bif Nat.blt pc 65 then
(bif Nat.blt pc 60 then
(bif Nat.beq pc 58 then en (.astore 8) 0 0 0 0 else none) else
(bif Nat.blt pc 62 then
(bif Nat.beq pc 60 then en (.aload 8) 0 0 0 0 else none) else
(bif Nat.beq pc 62 then en (.invokevirtual 165) 82 0 377 37902 else none))) else
(bif Nat.blt pc 68 then
(bif Nat.beq pc 65 then en (.ifCond .eq 14) 79 0 0 0 else none) else
(bif Nat.blt pc 70 then
(bif Nat.beq pc 68 then en (.aload 8) 0 0 0 0 else none) else
(bif Nat.beq pc 70 then en (.getfield 151) 2 9 161 0 else none)))) else
(bif Nat.blt pc 82 then
(bif Nat.blt pc 76 then
(bif Nat.beq pc 73 then en (.ifCond .eq 6) 79 0 0 0 else none) else
(bif Nat.blt pc 79 then
(bif Nat.beq pc 76 then en (.iinc 4 1) 0 0 0 0 else none) else
(bif Nat.beq pc 79 then en (.iinc 7 1) 0 0 0 0 else none))) else
(bif Nat.blt pc 85 then
(bif Nat.beq pc 82 then en (.goto (-36)) 46 0 0 0 else none) else
(bif Nat.blt pc 87 then
(bif Nat.beq pc 85 then en (.iload 4) 0 0 0 0 else none) else
(bif Nat.beq pc 87 then en (.ireturn) 0 0 0 0 else none))))))) else none
/-- SingleTrackLine$Line.takeTrainOff(I)I -/
def mc41 (pc : Nat) : Option En := bif Nat.blt pc 36 then (bif Nat.blt pc 17 then
(bif Nat.blt pc 7 then
(bif Nat.blt pc 2 then
(bif Nat.blt pc 1 then
(bif Nat.beq pc 0 then en (.aload_n 0) 0 0 0 0 else none) else
(bif Nat.beq pc 1 then en (.iload_n 1) 0 0 0 0 else none)) else
(bif Nat.blt pc 5 then
(bif Nat.beq pc 2 then en (.invokevirtual 161) 58 0 535 37501 else none) else
(bif Nat.blt pc 6 then
(bif Nat.beq pc 5 then en (.astore_n 2) 0 0 0 0 else none) else
(bif Nat.beq pc 6 then en (.aload_n 2) 0 0 0 0 else none)))) else
(bif Nat.blt pc 12 then
(bif Nat.blt pc 10 then
(bif Nat.beq pc 7 then en (.ifnonnull 6) 13 0 0 0 else none) else
(bif Nat.beq pc 10 then en (.bipush (-4)) 0 0 0 0 else none)) else
(bif Nat.blt pc 13 then
(bif Nat.beq pc 12 then en (.ireturn) 0 0 0 0 else none) else
(bif Nat.blt pc 14 then
(bif Nat.beq pc 13 then en (.aload_n 2) 0 0 0 0 else none) else
(bif Nat.beq pc 14 then en (.getfield 116) 2 0 135 0 else none))))) else
(bif Nat.blt pc 27 then
(bif Nat.blt pc 23 then
(bif Nat.blt pc 20 then
(bif Nat.beq pc 17 then en (.getstatic 169) 3 0 412 0 else none) else
(bif Nat.beq pc 20 then en (.if_acmp .ne 6) 26 0 0 0 else none)) else
(bif Nat.blt pc 25 then
(bif Nat.beq pc 23 then en (.bipush (-3)) 0 0 0 0 else none) else
(bif Nat.blt pc 26 then
(bif Nat.beq pc 25 then en (.ireturn) 0 0 0 0 else none) else
(bif Nat.beq pc 26 then en (.aload_n 0) 0 0 0 0 else none)))) else
(bif Nat.blt pc 31 then
(bif Nat.blt pc 28 then
(bif Nat.beq pc 27 then en (.aload_n 2) 0 0 0 0 else none) else
(bif Nat.beq pc 28 then en (.invokevirtual 172) 43 0 427 501 else none)) else
(bif Nat.blt pc 32 then
(bif Nat.beq pc 31 then en (.aload_n 0) 0 0 0 0 else none) else
(bif Nat.blt pc 35 then
(bif Nat.beq pc 32 then en (.getfield 42) 1 5 204 0 else none) else
(bif Nat.beq pc 35 then en (.ireturn) 0 0 0 0 else none)))))) else none
/-- SingleTrackLine$Line.letPass(I)I -/
def mc42 (pc : Nat) : Option En := bif Nat.blt pc 43 then (bif Nat.blt pc 20 then
(bif Nat.blt pc 11 then
(bif Nat.blt pc 5 then
(bif Nat.blt pc 1 then
(bif Nat.beq pc 0 then en (.iload_n 1) 0 0 0 0 else none) else
(bif Nat.blt pc 2 then
(bif Nat.beq pc 1 then en (.iconst 1) 0 0 0 0 else none) else
(bif Nat.beq pc 2 then en (.if_icmp .lt 9) 11 0 0 0 else none))) else
(bif Nat.blt pc 6 then
(bif Nat.beq pc 5 then en (.iload_n 1) 0 0 0 0 else none) else
(bif Nat.blt pc 8 then
(bif Nat.beq pc 6 then en (.bipush 60) 0 0 0 0 else none) else
(bif Nat.beq pc 8 then en (.if_icmp .le 6) 14 0 0 0 else none)))) else
(bif Nat.blt pc 15 then
(bif Nat.blt pc 13 then
(bif Nat.beq pc 11 then en (.bipush (-2)) 0 0 0 0 else none) else
(bif Nat.blt pc 14 then
(bif Nat.beq pc 13 then en (.ireturn) 0 0 0 0 else none) else
(bif Nat.beq pc 14 then en (.aload_n 0) 0 0 0 0 else none))) else
(bif Nat.blt pc 18 then
(bif Nat.beq pc 15 then en (.getfield 51) 1 8 209 0 else none) else
(bif Nat.blt pc 19 then
(bif Nat.beq pc 18 then en (.istore_n 2) 0 0 0 0 else none) else
(bif Nat.beq pc 19 then en (.iconst 0) 0 0 0 0 else none))))) else
(bif Nat.blt pc 30 then
(bif Nat.blt pc 23 then
(bif Nat.blt pc 21 then
(bif Nat.beq pc 20 then en (.istore_n 3) 0 0 0 0 else none) else
(bif Nat.blt pc 22 then
(bif Nat.beq pc 21 then en (.iload_n 3) 0 0 0 0 else none) else
(bif Nat.beq pc 22 then en (.iload_n 1) 0 0 0 0 else none))) else
(bif Nat.blt pc 26 then
(bif Nat.beq pc 23 then en (.if_icmp .ge 13) 36 0 0 0 else none) else
(bif Nat.blt pc 27 then
(bif Nat.beq pc 26 then en (.aload_n 0) 0 0 0 0 else none) else
(bif Nat.beq pc 27 then en (.invokevirtual 175) 44 0 400 201 else none)))) else
(bif Nat.blt pc 37 then
(bif Nat.blt pc 33 then
(bif Nat.beq pc 30 then en (.iinc 3 1) 0 0 0 0 else none) else
(bif Nat.blt pc 36 then
(bif Nat.beq pc 33 then en (.goto (-12)) 21 0 0 0 else none) else
(bif Nat.beq pc 36 then en (.aload_n 0) 0 0 0 0 else none))) else
(bif Nat.blt pc 41 then
(bif Nat.blt pc 40 then
(bif Nat.beq pc 37 then en (.getfield 51) 1 8 209 0 else none) else
(bif Nat.beq pc 40 then en (.iload_n 2) 0 0 0 0 else none)) else
(bif Nat.blt pc 42 then
(bif Nat.beq pc 41 then en (.isub) 0 0 0 0 else none) else
(bif Nat.beq pc 42 then en (.ireturn) 0 0 0 0 else none)))))) else none
/-- SingleTrackLine$Line.remove(LSingleTrackLine$Train;)V -/
def mc43 (pc : Nat) : Option En := bif Nat.blt pc 66 then (bif Nat.blt pc 31 then
(bif Nat.blt pc 14 then
(bif Nat.blt pc 4 then
(bif Nat.blt pc 2 then
(bif Nat.blt pc 1 then
(bif Nat.beq pc 0 then en (.iconst 0) 0 0 0 0 else none) else
(bif Nat.beq pc 1 then en (.istore_n 2) 0 0 0 0 else none)) else
(bif Nat.blt pc 3 then
(bif Nat.beq pc 2 then en (.iconst 0) 0 0 0 0 else none) else
(bif Nat.beq pc 3 then en (.istore_n 3) 0 0 0 0 else none))) else
(bif Nat.blt pc 7 then
(bif Nat.blt pc 5 then
(bif Nat.beq pc 4 then en (.iload_n 3) 0 0 0 0 else none) else
(bif Nat.beq pc 5 then en (.bipush 6) 0 0 0 0 else none)) else
(bif Nat.blt pc 10 then
(bif Nat.beq pc 7 then en (.if_icmp .ge 34) 41 0 0 0 else none) else
(bif Nat.blt pc 11 then
(bif Nat.beq pc 10 then en (.aload_n 0) 0 0 0 0 else none) else
(bif Nat.beq pc 11 then en (.getfield 23) 1 4 202 0 else none))))) else
(bif Nat.blt pc 21 then
(bif Nat.blt pc 16 then
(bif Nat.blt pc 15 then
(bif Nat.beq pc 14 then en (.iload_n 3) 0 0 0 0 else none) else
(bif Nat.beq pc 15 then en (.aaload) 0 0 0 0 else none)) else
(bif Nat.blt pc 18 then
(bif Nat.beq pc 16 then en (.astore 4) 0 0 0 0 else none) else
(bif Nat.blt pc 20 then
(bif Nat.beq pc 18 then en (.aload 4) 0 0 0 0 else none) else
(bif Nat.beq pc 20 then en (.aload_n 1) 0 0 0 0 else none)))) else
(bif Nat.blt pc 25 then
(bif Nat.blt pc 24 then
(bif Nat.beq pc 21 then en (.if_acmp .eq 14) 35 0 0 0 else none) else
(bif Nat.beq pc 24 then en (.aload_n 0) 0 0 0 0 else none)) else
(bif Nat.blt pc 28 then
(bif Nat.beq pc 25 then en (.getfield 23) 1 4 202 0 else none) else
(bif Nat.blt pc 29 then
(bif Nat.beq pc 28 then en (.iload_n 2) 0 0 0 0 else none) else
(bif Nat.beq pc 29 then en (.aload 4) 0 0 0 0 else none)))))) else
(bif Nat.blt pc 48 then
(bif Nat.blt pc 41 then
(bif Nat.blt pc 35 then
(bif Nat.blt pc 32 then
(bif Nat.beq pc 31 then en (.aastore) 0 0 0 0 else none) else
(bif Nat.beq pc 32 then en (.iinc 2 1) 0 0 0 0 else none)) else
(bif Nat.blt pc 38 then
(bif Nat.beq pc 35 then en (.iinc 3 1) 0 0 0 0 else none) else
(bif Nat.beq pc 38 then en (.goto (-34)) 4 0 0 0 else none))) else
(bif Nat.blt pc 45 then
(bif Nat.blt pc 42 then
(bif Nat.beq pc 41 then en (.aload_n 0) 0 0 0 0 else none) else
(bif Nat.beq pc 42 then en (.getfield 23) 1 4 202 0 else none)) else
(bif Nat.blt pc 46 then
(bif Nat.beq pc 45 then en (.iconst 5) 0 0 0 0 else none) else
(bif Nat.blt pc 47 then
(bif Nat.beq pc 46 then en (.aload_n 1) 0 0 0 0 else none) else
(bif Nat.beq pc 47 then en (.aastore) 0 0 0 0 else none))))) else
(bif Nat.blt pc 57 then
(bif Nat.blt pc 52 then
(bif Nat.blt pc 49 then
(bif Nat.beq pc 48 then en (.aload_n 1) 0 0 0 0 else none) else
(bif Nat.beq pc 49 then en (.getstatic 178) 0 0 431 0 else none)) else
(bif Nat.blt pc 55 then
(bif Nat.beq pc 52 then en (.putfield 116) 2 0 135 0 else none) else
(bif Nat.blt pc 56 then
(bif Nat.beq pc 55 then en (.aload_n 0) 0 0 0 0 else none) else
(bif Nat.beq pc 56 then en (.dup) 0 0 0 0 else none)))) else
(bif Nat.blt pc 61 then
(bif Nat.blt pc 60 then
(bif Nat.beq pc 57 then en (.getfield 42) 1 5 204 0 else none) else
(bif Nat.beq pc 60 then en (.iconst 1) 0 0 0 0 else none)) else
(bif Nat.blt pc 62 then
(bif Nat.beq pc 61 then en (.isub) 0 0 0 0 else none) else
(bif Nat.blt pc 65 then
(bif Nat.beq pc 62 then en (.putfield 42) 1 5 204 0 else none) else
(bif Nat.beq pc 65 then en (.return_) 0 0 0 0 else none))))))) else none
/-- SingleTrackLine$Line.passMinute()V -/
def mc44 (pc : Nat) : Option En := bif Nat.blt pc 23 then (bif Nat.blt pc 10 then
(bif Nat.blt pc 5 then
(bif Nat.blt pc 1 then
(bif Nat.beq pc 0 then en (.aload_n 0) 0 0 0 0 else none) else
(bif Nat.blt pc 2 then
(bif Nat.beq pc 1 then en (.dup) 0 0 0 0 else none) else
(bif Nat.beq pc 2 then en (.getfield 48) 1 7 207 0 else none))) else
(bif Nat.blt pc 6 then
(bif Nat.beq pc 5 then en (.iconst 1) 0 0 0 0 else none) else
(bif Nat.blt pc 7 then
(bif Nat.beq pc 6 then en (.iadd) 0 0 0 0 else none) else
(bif Nat.beq pc 7 then en (.putfield 48) 1 7 207 0 else none)))) else
(bif Nat.blt pc 15 then
(bif Nat.blt pc 11 then
(bif Nat.beq pc 10 then en (.aload_n 0) 0 0 0 0 else none) else
(bif Nat.blt pc 14 then
(bif Nat.beq pc 11 then en (.invokevirtual 181) 45 0 404 301 else none) else
(bif Nat.beq pc 14 then en (.aload_n 0) 0 0 0 0 else none))) else
(bif Nat.blt pc 19 then
(bif Nat.blt pc 18 then
(bif Nat.beq pc 15 then en (.invokevirtual 184) 47 0 432 601 else none) else
(bif Nat.beq pc 18 then en (.aload_n 0) 0 0 0 0 else none)) else
(bif Nat.blt pc 22 then
(bif Nat.beq pc 19 then en (.invokevirtual 187) 48 0 443 701 else none) else
(bif Nat.beq pc 22 then en (.return_) 0 0 0 0 else none))))) else none
/-- SingleTrackLine$Line.moveTrains()V -/
def mc45 (pc : Nat) : Option En := bif Nat.blt pc 51 then (bif Nat.blt pc 22 then
(bif Nat.blt pc 9 then
(bif Nat.blt pc 3 then
(bif Nat.blt pc 1 then
(bif Nat.beq pc 0 then en (.iconst 0) 0 0 0 0 else none) else
(bif Nat.blt pc 2 then
(bif Nat.beq pc 1 then en (.istore_n 1) 0 0 0 0 else none) else
(bif Nat.beq pc 2 then en (.iload_n 1) 0 0 0 0 else none))) else
(bif Nat.blt pc 7 then
(bif Nat.blt pc 4 then
(bif Nat.beq pc 3 then en (.aload_n 0) 0 0 0 0 else none) else
(bif Nat.beq pc 4 then en (.getfield 28) 1 0 195 0 else none)) else
(bif Nat.blt pc 8 then
(bif Nat.beq pc 7 then en (.iconst 1) 0 0 0 0 else none) else
(bif Nat.beq pc 8 then en (.isub) 0 0 0 0 else none)))) else
(bif Nat.blt pc 14 then
(bif Nat.blt pc 12 then
(bif Nat.beq pc 9 then en (.if_icmp .ge 41) 50 0 0 0 else none) else
(bif Nat.blt pc 13 then
(bif Nat.beq pc 12 then en (.aload_n 0) 0 0 0 0 else none) else
(bif Nat.beq pc 13 then en (.iload_n 1) 0 0 0 0 else none))) else
(bif Nat.blt pc 18 then
(bif Nat.blt pc 17 then
(bif Nat.beq pc 14 then en (.invokevirtual 190) 59 0 408 41001 else none) else
(bif Nat.beq pc 17 then en (.astore_n 2) 0 0 0 0 else none)) else
(bif Nat.blt pc 19 then
(bif Nat.beq pc 18 then en (.aload_n 2) 0 0 0 0 else none) else
(bif Nat.beq pc 19 then en (.ifnull 25) 44 0 0 0 else none))))) else
(bif Nat.blt pc 33 then
(bif Nat.blt pc 27 then
(bif Nat.blt pc 23 then
(bif Nat.beq pc 22 then en (.aload_n 2) 0 0 0 0 else none) else
(bif Nat.blt pc 24 then
(bif Nat.beq pc 23 then en (.dup) 0 0 0 0 else none) else
(bif Nat.beq pc 24 then en (.getfield 148) 2 8 159 0 else none))) else
(bif Nat.blt pc 29 then
(bif Nat.blt pc 28 then
(bif Nat.beq pc 27 then en (.iconst 1) 0 0 0 0 else none) else
(bif Nat.beq pc 28 then en (.isub) 0 0 0 0 else none)) else
(bif Nat.blt pc 32 then
(bif Nat.beq pc 29 then en (.putfield 148) 2 8 159 0 else none) else
(bif Nat.beq pc 32 then en (.aload_n 2) 0 0 0 0 else none)))) else
(bif Nat.blt pc 41 then
(bif Nat.blt pc 39 then
(bif Nat.blt pc 36 then
(bif Nat.beq pc 33 then en (.getfield 148) 2 8 159 0 else none) else
(bif Nat.beq pc 36 then en (.ifCond .gt 8) 44 0 0 0 else none)) else
(bif Nat.blt pc 40 then
(bif Nat.beq pc 39 then en (.aload_n 0) 0 0 0 0 else none) else
(bif Nat.beq pc 40 then en (.aload_n 2) 0 0 0 0 else none))) else
(bif Nat.blt pc 47 then
(bif Nat.blt pc 44 then
(bif Nat.beq pc 41 then en (.invokevirtual 193) 46 0 414 401 else none) else
(bif Nat.beq pc 44 then en (.iinc 1 1) 0 0 0 0 else none)) else
(bif Nat.blt pc 50 then
(bif Nat.beq pc 47 then en (.goto (-45)) 2 0 0 0 else none) else
(bif Nat.beq pc 50 then en (.return_) 0 0 0 0 else none)))))) else none
/-- SingleTrackLine$Line.arrive(LSingleTrackLine$Train;)V -/
def mc46 (pc : Nat) : Option En := bif Nat.blt pc 95 then (bif Nat.blt pc 50 then
(bif Nat.blt pc 25 then
(bif Nat.blt pc 12 then
(bif Nat.blt pc 5 then
(bif Nat.blt pc 1 then
(bif Nat.beq pc 0 then en (.aload_n 1) 0 0 0 0 else none) else
(bif Nat.blt pc 4 then
(bif Nat.beq pc 1 then en (.getfield 142) 2 6 153 0 else none) else
(bif Nat.beq pc 4 then en (.aload_n 1) 0 0 0 0 else none))) else
(bif Nat.blt pc 8 then
(bif Nat.beq pc 5 then en (.getfield 125) 2 3 144 0 else none) else
(bif Nat.blt pc 11 then
(bif Nat.beq pc 8 then en (.if_icmp .eq 16) 24 0 0 0 else none) else
(bif Nat.beq pc 11 then en (.aload_n 1) 0 0 0 0 else none)))) else
(bif Nat.blt pc 17 then
(bif Nat.blt pc 13 then
(bif Nat.beq pc 12 then en (.aload_n 1) 0 0 0 0 else none) else
(bif Nat.blt pc 16 then
(bif Nat.beq pc 13 then en (.getfield 142) 2 6 153 0 else none) else
(bif Nat.beq pc 16 then en (.aload_n 0) 0 0 0 0 else none))) else
(bif Nat.blt pc 23 then
(bif Nat.blt pc 20 then
(bif Nat.beq pc 17 then en (.getfield 48) 1 7 207 0 else none) else
(bif Nat.beq pc 20 then en (.invokevirtual 196) 85 0 418 42002 else none)) else
(bif Nat.blt pc 24 then
(bif Nat.beq pc 23 then en (.return_) 0 0 0 0 else none) else
(bif Nat.beq pc 24 then en (.aload_n 0) 0 0 0 0 else none))))) else
(bif Nat.blt pc 35 then
(bif Nat.blt pc 32 then
(bif Nat.blt pc 28 then
(bif Nat.beq pc 25 then en (.getfield 48) 1 7 207 0 else none) else
(bif Nat.blt pc 29 then
(bif Nat.beq pc 28 then en (.aload_n 1) 0 0 0 0 else none) else
(bif Nat.beq pc 29 then en (.getfield 139) 2 5 149 0 else none))) else
(bif Nat.blt pc 33 then
(bif Nat.beq pc 32 then en (.isub) 0 0 0 0 else none) else
(bif Nat.blt pc 34 then
(bif Nat.beq pc 33 then en (.istore_n 2) 0 0 0 0 else none) else
(bif Nat.beq pc 34 then en (.aload_n 0) 0 0 0 0 else none)))) else
(bif Nat.blt pc 40 then
(bif Nat.blt pc 36 then
(bif Nat.beq pc 35 then en (.aload_n 0) 0 0 0 0 else none) else
(bif Nat.blt pc 39 then
(bif Nat.beq pc 36 then en (.getfield 61) 1 11 215 0 else none) else
(bif Nat.beq pc 39 then en (.iload_n 2) 0 0 0 0 else none))) else
(bif Nat.blt pc 46 then
(bif Nat.blt pc 43 then
(bif Nat.beq pc 40 then en (.invokestatic 200) 0 8 424 0 else none) else
(bif Nat.beq pc 43 then en (.putfield 61) 1 11 215 0 else none)) else
(bif Nat.blt pc 47 then
(bif Nat.beq pc 46 then en (.iload_n 2) 0 0 0 0 else none) else
(bif Nat.beq pc 47 then en (.ifCond .ne 13) 60 0 0 0 else none)))))) else
(bif Nat.blt pc 71 then
(bif Nat.blt pc 60 then
(bif Nat.blt pc 55 then
(bif Nat.blt pc 51 then
(bif Nat.beq pc 50 then en (.aload_n 0) 0 0 0 0 else none) else
(bif Nat.blt pc 52 then
(bif Nat.beq pc 51 then en (.dup) 0 0 0 0 else none) else
(bif Nat.beq pc 52 then en (.getfield 64) 1 12 217 0 else none))) else
(bif Nat.blt pc 56 then
(bif Nat.beq pc 55 then en (.iconst 1) 0 0 0 0 else none) else
(bif Nat.blt pc 57 then
(bif Nat.beq pc 56 then en (.iadd) 0 0 0 0 else none) else
(bif Nat.beq pc 57 then en (.putfield 64) 1 12 217 0 else none)))) else
(bif Nat.blt pc 65 then
(bif Nat.blt pc 61 then
(bif Nat.beq pc 60 then en (.aload_n 0) 0 0 0 0 else none) else
(bif Nat.blt pc 62 then
(bif Nat.beq pc 61 then en (.dup) 0 0 0 0 else none) else
(bif Nat.beq pc 62 then en (.getfield 57) 1 10 213 0 else none))) else
(bif Nat.blt pc 67 then
(bif Nat.blt pc 66 then
(bif Nat.beq pc 65 then en (.iload_n 2) 0 0 0 0 else none) else
(bif Nat.beq pc 66 then en (.i2l) 0 0 0 0 else none)) else
(bif Nat.blt pc 68 then
(bif Nat.beq pc 67 then en (.ladd) 0 0 0 0 else none) else
(bif Nat.beq pc 68 then en (.putfield 57) 1 10 213 0 else none))))) else
(bif Nat.blt pc 82 then
(bif Nat.blt pc 76 then
(bif Nat.blt pc 72 then
(bif Nat.beq pc 71 then en (.aload_n 0) 0 0 0 0 else none) else
(bif Nat.blt pc 73 then
(bif Nat.beq pc 72 then en (.dup) 0 0 0 0 else none) else
(bif Nat.beq pc 73 then en (.getfield 51) 1 8 209 0 else none))) else
(bif Nat.blt pc 78 then
(bif Nat.blt pc 77 then
(bif Nat.beq pc 76 then en (.iconst 1) 0 0 0 0 else none) else
(bif Nat.beq pc 77 then en (.iadd) 0 0 0 0 else none)) else
(bif Nat.blt pc 81 then
(bif Nat.beq pc 78 then en (.putfield 51) 1 8 209 0 else none) else
(bif Nat.beq pc 81 then en (.aload_n 0) 0 0 0 0 else none)))) else
(bif Nat.blt pc 89 then
(bif Nat.blt pc 83 then
(bif Nat.beq pc 82 then en (.aload_n 1) 0 0 0 0 else none) else
(bif Nat.blt pc 86 then
(bif Nat.beq pc 83 then en (.getfield 119) 2 1 137 0 else none) else
(bif Nat.beq pc 86 then en (.putfield 54) 1 9 211 0 else none))) else
(bif Nat.blt pc 91 then
(bif Nat.blt pc 90 then
(bif Nat.beq pc 89 then en (.aload_n 0) 0 0 0 0 else none) else
(bif Nat.beq pc 90 then en (.aload_n 1) 0 0 0 0 else none)) else
(bif Nat.blt pc 94 then
(bif Nat.beq pc 91 then en (.invokevirtual 172) 43 0 427 501 else none) else
(bif Nat.beq pc 94 then en (.return_) 0 0 0 0 else none))))))) else none
/-- SingleTrackLine$Line.bringExpectedTrains()V -/
def mc47 (pc : Nat) : Option En := bif Nat.blt pc 76 then (bif Nat.blt pc 31 then
(bif Nat.blt pc 11 then
(bif Nat.blt pc 6 then
(bif Nat.blt pc 4 then
(bif Nat.blt pc 1 then
(bif Nat.beq pc 0 then en (.aload_n 0) 0 0 0 0 else none) else
(bif Nat.beq pc 1 then en (.getfield 23) 1 4 202 0 else none)) else
(bif Nat.blt pc 5 then
(bif Nat.beq pc 4 then en (.astore_n 1) 0 0 0 0 else none) else
(bif Nat.beq pc 5 then en (.aload_n 1) 0 0 0 0 else none))) else
(bif Nat.blt pc 8 then
(bif Nat.blt pc 7 then
(bif Nat.beq pc 6 then en (.arraylength) 0 0 0 0 else none) else
(bif Nat.beq pc 7 then en (.istore_n 2) 0 0 0 0 else none)) else
(bif Nat.blt pc 9 then
(bif Nat.beq pc 8 then en (.iconst 0) 0 0 0 0 else none) else
(bif Nat.blt pc 10 then
(bif Nat.beq pc 9 then en (.istore_n 3) 0 0 0 0 else none) else
(bif Nat.beq pc 10 then en (.iload_n 3) 0 0 0 0 else none))))) else
(bif Nat.blt pc 18 then
(bif Nat.blt pc 15 then
(bif Nat.blt pc 12 then
(bif Nat.beq pc 11 then en (.iload_n 2) 0 0 0 0 else none) else
(bif Nat.beq pc 12 then en (.if_icmp .ge 63) 75 0 0 0 else none)) else
(bif Nat.blt pc 16 then
(bif Nat.beq pc 15 then en (.aload_n 1) 0 0 0 0 else none) else
(bif Nat.blt pc 17 then
(bif Nat.beq pc 16 then en (.iload_n 3) 0 0 0 0 else none) else
(bif Nat.beq pc 17 then en (.aaload) 0 0 0 0 else none)))) else
(bif Nat.blt pc 22 then
(bif Nat.blt pc 20 then
(bif Nat.beq pc 18 then en (.astore 4) 0 0 0 0 else none) else
(bif Nat.beq pc 20 then en (.aload 4) 0 0 0 0 else none)) else
(bif Nat.blt pc 25 then
(bif Nat.beq pc 22 then en (.getfield 116) 2 0 135 0 else none) else
(bif Nat.blt pc 28 then
(bif Nat.beq pc 25 then en (.getstatic 110) 1 0 436 0 else none) else
(bif Nat.beq pc 28 then en (.if_acmp .ne 41) 69 0 0 0 else none)))))) else
(bif Nat.blt pc 52 then
(bif Nat.blt pc 40 then
(bif Nat.blt pc 36 then
(bif Nat.blt pc 33 then
(bif Nat.beq pc 31 then en (.aload 4) 0 0 0 0 else none) else
(bif Nat.beq pc 33 then en (.getfield 128) 2 4 146 0 else none)) else
(bif Nat.blt pc 37 then
(bif Nat.beq pc 36 then en (.aload_n 0) 0 0 0 0 else none) else
(bif Nat.beq pc 37 then en (.getfield 48) 1 7 207 0 else none))) else
(bif Nat.blt pc 44 then
(bif Nat.blt pc 43 then
(bif Nat.beq pc 40 then en (.if_icmp .gt 29) 69 0 0 0 else none) else
(bif Nat.beq pc 43 then en (.aload_n 0) 0 0 0 0 else none)) else
(bif Nat.blt pc 46 then
(bif Nat.beq pc 44 then en (.aload 4) 0 0 0 0 else none) else
(bif Nat.blt pc 49 then
(bif Nat.beq pc 46 then en (.getfield 122) 2 2 141 0 else none) else
(bif Nat.beq pc 49 then en (.invokevirtual 107) 60 0 438 44001 else none))))) else
(bif Nat.blt pc 63 then
(bif Nat.blt pc 57 then
(bif Nat.blt pc 55 then
(bif Nat.beq pc 52 then en (.ifCond .le 17) 69 0 0 0 else none) else
(bif Nat.beq pc 55 then en (.aload 4) 0 0 0 0 else none)) else
(bif Nat.blt pc 59 then
(bif Nat.beq pc 57 then en (.aload 4) 0 0 0 0 else none) else
(bif Nat.blt pc 62 then
(bif Nat.beq pc 59 then en (.getfield 122) 2 2 141 0 else none) else
(bif Nat.beq pc 62 then en (.aload_n 0) 0 0 0 0 else none)))) else
(bif Nat.blt pc 69 then
(bif Nat.blt pc 66 then
(bif Nat.beq pc 63 then en (.getfield 48) 1 7 207 0 else none) else
(bif Nat.beq pc 66 then en (.invokevirtual 196) 85 0 418 42002 else none)) else
(bif Nat.blt pc 72 then
(bif Nat.beq pc 69 then en (.iinc 3 1) 0 0 0 0 else none) else
(bif Nat.blt pc 75 then
(bif Nat.beq pc 72 then en (.goto (-62)) 10 0 0 0 else none) else
(bif Nat.beq pc 75 then en (.return_) 0 0 0 0 else none))))))) else none
/-- SingleTrackLine$Line.letTrainsLeave()V -/
def mc48 (pc : Nat) : Option En := bif Nat.blt pc 64 then (bif Nat.blt pc 29 then
(bif Nat.blt pc 11 then
(bif Nat.blt pc 6 then
(bif Nat.blt pc 2 then
(bif Nat.blt pc 1 then
(bif Nat.beq pc 0 then en (.aload_n 0) 0 0 0 0 else none) else
(bif Nat.beq pc 1 then en (.aconst_null) 0 0 0 0 else none)) else
(bif Nat.blt pc 5 then
(bif Nat.beq pc 2 then en (.invokevirtual 203) 50 0 447 801 else none) else
(bif Nat.beq pc 5 then en (.astore_n 1) 0 0 0 0 else none))) else
(bif Nat.blt pc 8 then
(bif Nat.blt pc 7 then
(bif Nat.beq pc 6 then en (.iconst 0) 0 0 0 0 else none) else
(bif Nat.beq pc 7 then en (.istore_n 2) 0 0 0 0 else none)) else
(bif Nat.blt pc 9 then
(bif Nat.beq pc 8 then en (.iload_n 2) 0 0 0 0 else none) else
(bif Nat.beq pc 9 then en (.bipush 6) 0 0 0 0 else none)))) else
(bif Nat.blt pc 19 then
(bif Nat.blt pc 15 then
(bif Nat.blt pc 14 then
(bif Nat.beq pc 11 then en (.if_icmp .ge 52) 63 0 0 0 else none) else
(bif Nat.beq pc 14 then en (.aload_n 1) 0 0 0 0 else none)) else
(bif Nat.blt pc 18 then
(bif Nat.beq pc 15 then en (.ifnull 48) 63 0 0 0 else none) else
(bif Nat.beq pc 18 then en (.aload_n 1) 0 0 0 0 else none))) else
(bif Nat.blt pc 25 then
(bif Nat.blt pc 22 then
(bif Nat.beq pc 19 then en (.getfield 116) 2 0 135 0 else none) else
(bif Nat.beq pc 22 then en (.getstatic 207) 2 0 442 0 else none)) else
(bif Nat.blt pc 28 then
(bif Nat.beq pc 25 then en (.if_acmp .ne 26) 51 0 0 0 else none) else
(bif Nat.beq pc 28 then en (.aload_n 1) 0 0 0 0 else none))))) else
(bif Nat.blt pc 47 then
(bif Nat.blt pc 39 then
(bif Nat.blt pc 33 then
(bif Nat.blt pc 32 then
(bif Nat.beq pc 29 then en (.getfield 158) 2 11 168 0 else none) else
(bif Nat.beq pc 32 then en (.aload_n 0) 0 0 0 0 else none)) else
(bif Nat.blt pc 36 then
(bif Nat.beq pc 33 then en (.getfield 48) 1 7 207 0 else none) else
(bif Nat.beq pc 36 then en (.if_icmp .eq 15) 51 0 0 0 else none))) else
(bif Nat.blt pc 43 then
(bif Nat.blt pc 40 then
(bif Nat.beq pc 39 then en (.aload_n 1) 0 0 0 0 else none) else
(bif Nat.beq pc 40 then en (.getfield 151) 2 9 161 0 else none)) else
(bif Nat.blt pc 46 then
(bif Nat.beq pc 43 then en (.ifCond .ne 8) 51 0 0 0 else none) else
(bif Nat.beq pc 46 then en (.aload_n 0) 0 0 0 0 else none)))) else
(bif Nat.blt pc 53 then
(bif Nat.blt pc 51 then
(bif Nat.blt pc 48 then
(bif Nat.beq pc 47 then en (.aload_n 1) 0 0 0 0 else none) else
(bif Nat.beq pc 48 then en (.invokevirtual 210) 49 0 455 901 else none)) else
(bif Nat.blt pc 52 then
(bif Nat.beq pc 51 then en (.aload_n 0) 0 0 0 0 else none) else
(bif Nat.beq pc 52 then en (.aload_n 1) 0 0 0 0 else none))) else
(bif Nat.blt pc 57 then
(bif Nat.blt pc 56 then
(bif Nat.beq pc 53 then en (.invokevirtual 203) 50 0 447 801 else none) else
(bif Nat.beq pc 56 then en (.astore_n 1) 0 0 0 0 else none)) else
(bif Nat.blt pc 60 then
(bif Nat.beq pc 57 then en (.iinc 2 1) 0 0 0 0 else none) else
(bif Nat.blt pc 63 then
(bif Nat.beq pc 60 then en (.goto (-52)) 8 0 0 0 else none) else
(bif Nat.beq pc 63 then en (.return_) 0 0 0 0 else none))))))) else none
/-- SingleTrackLine$Line.tryToLeave(LSingleTrackLine$Train;)V -/
def mc49 (pc : Nat) : Option En := bif Nat.blt pc 90 then (bif Nat.blt pc 45 then
(bif Nat.blt pc 20 then
(bif Nat.blt pc 10 then
(bif Nat.blt pc 5 then
(bif Nat.blt pc 1 then
(bif Nat.beq pc 0 then en (.aload_n 1) 0 0 0 0 else none) else
(bif Nat.blt pc 4 then
(bif Nat.beq pc 1 then en (.getfield 142) 2 6 153 0 else none) else
(bif Nat.beq pc 4 then en (.aload_n 1) 0 0 0 0 else none))) else
(bif Nat.blt pc 8 then
(bif Nat.beq pc 5 then en (.invokevirtual 213) 84 0 459 46102 else none) else
(bif Nat.blt pc 9 then
(bif Nat.beq pc 8 then en (.iadd) 0 0 0 0 else none) else
(bif Nat.beq pc 9 then en (.istore_n 2) 0 0 0 0 else none)))) else
(bif Nat.blt pc 15 then
(bif Nat.blt pc 11 then
(bif Nat.beq pc 10 then en (.aload_n 1) 0 0 0 0 else none) else
(bif Nat.blt pc 14 then
(bif Nat.beq pc 11 then en (.getfield 142) 2 6 153 0 else none) else
(bif Nat.beq pc 14 then en (.iload_n 2) 0 0 0 0 else none))) else
(bif Nat.blt pc 18 then
(bif Nat.beq pc 15 then en (.invokestatic 216) 0 9 463 0 else none) else
(bif Nat.blt pc 19 then
(bif Nat.beq pc 18 then en (.istore_n 3) 0 0 0 0 else none) else
(bif Nat.beq pc 19 then en (.aload_n 0) 0 0 0 0 else none))))) else
(bif Nat.blt pc 30 then
(bif Nat.blt pc 27 then
(bif Nat.blt pc 21 then
(bif Nat.beq pc 20 then en (.iload_n 3) 0 0 0 0 else none) else
(bif Nat.blt pc 24 then
(bif Nat.beq pc 21 then en (.invokevirtual 219) 56 0 466 46801 else none) else
(bif Nat.beq pc 24 then en (.ifCond .ne 4) 28 0 0 0 else none))) else
(bif Nat.blt pc 28 then
(bif Nat.beq pc 27 then en (.return_) 0 0 0 0 else none) else
(bif Nat.blt pc 29 then
(bif Nat.beq pc 28 then en (.iload_n 2) 0 0 0 0 else none) else
(bif Nat.beq pc 29 then en (.aload_n 1) 0 0 0 0 else none)))) else
(bif Nat.blt pc 37 then
(bif Nat.blt pc 33 then
(bif Nat.beq pc 30 then en (.getfield 125) 2 3 144 0 else none) else
(bif Nat.blt pc 36 then
(bif Nat.beq pc 33 then en (.if_icmp .eq 11) 44 0 0 0 else none) else
(bif Nat.beq pc 36 then en (.aload_n 0) 0 0 0 0 else none))) else
(bif Nat.blt pc 41 then
(bif Nat.blt pc 38 then
(bif Nat.beq pc 37 then en (.iload_n 2) 0 0 0 0 else none) else
(bif Nat.beq pc 38 then en (.invokevirtual 107) 60 0 438 44001 else none)) else
(bif Nat.blt pc 44 then
(bif Nat.beq pc 41 then en (.ifCond .le 7) 48 0 0 0 else none) else
(bif Nat.beq pc 44 then en (.iconst 1) 0 0 0 0 else none)))))) else
(bif Nat.blt pc 67 then
(bif Nat.blt pc 57 then
(bif Nat.blt pc 51 then
(bif Nat.blt pc 48 then
(bif Nat.beq pc 45 then en (.goto 4) 49 0 0 0 else none) else
(bif Nat.blt pc 49 then
(bif Nat.beq pc 48 then en (.iconst 0) 0 0 0 0 else none) else
(bif Nat.beq pc 49 then en (.istore 4) 0 0 0 0 else none))) else
(bif Nat.blt pc 53 then
(bif Nat.beq pc 51 then en (.iload 4) 0 0 0 0 else none) else
(bif Nat.blt pc 56 then
(bif Nat.beq pc 53 then en (.ifCond .eq 26) 79 0 0 0 else none) else
(bif Nat.beq pc 56 then en (.aload_n 0) 0 0 0 0 else none)))) else
(bif Nat.blt pc 64 then
(bif Nat.blt pc 58 then
(bif Nat.beq pc 57 then en (.iload_n 3) 0 0 0 0 else none) else
(bif Nat.blt pc 61 then
(bif Nat.beq pc 58 then en (.invokevirtual 190) 59 0 408 41001 else none) else
(bif Nat.beq pc 61 then en (.ifnonnull 18) 79 0 0 0 else none))) else
(bif Nat.blt pc 65 then
(bif Nat.beq pc 64 then en (.aload_n 1) 0 0 0 0 else none) else
(bif Nat.blt pc 66 then
(bif Nat.beq pc 65 then en (.iload_n 3) 0 0 0 0 else none) else
(bif Nat.beq pc 66 then en (.iload_n 2) 0 0 0 0 else none))))) else
(bif Nat.blt pc 79 then
(bif Nat.blt pc 72 then
(bif Nat.blt pc 68 then
(bif Nat.beq pc 67 then en (.aload_n 0) 0 0 0 0 else none) else
(bif Nat.blt pc 71 then
(bif Nat.beq pc 68 then en (.getfield 15) 1 2 199 0 else none) else
(bif Nat.beq pc 71 then en (.iload_n 3) 0 0 0 0 else none))) else
(bif Nat.blt pc 73 then
(bif Nat.beq pc 72 then en (.iaload) 0 0 0 0 else none) else
(bif Nat.blt pc 76 then
(bif Nat.beq pc 73 then en (.invokevirtual 222) 86 0 470 47202 else none) else
(bif Nat.beq pc 76 then en (.goto 13) 89 0 0 0 else none)))) else
(bif Nat.blt pc 84 then
(bif Nat.blt pc 80 then
(bif Nat.beq pc 79 then en (.aload_n 1) 0 0 0 0 else none) else
(bif Nat.blt pc 81 then
(bif Nat.beq pc 80 then en (.dup) 0 0 0 0 else none) else
(bif Nat.beq pc 81 then en (.getfield 155) 2 10 164 0 else none))) else
(bif Nat.blt pc 86 then
(bif Nat.blt pc 85 then
(bif Nat.beq pc 84 then en (.iconst 1) 0 0 0 0 else none) else
(bif Nat.beq pc 85 then en (.iadd) 0 0 0 0 else none)) else
(bif Nat.blt pc 89 then
(bif Nat.beq pc 86 then en (.putfield 155) 2 10 164 0 else none) else
(bif Nat.beq pc 89 then en (.return_) 0 0 0 0 else none))))))) else none
/-- SingleTrackLine$Line.findNextToLeave(LSingleTrackLine$Train;)LSingleTrackLine$Train; -/
def mc50 (pc : Nat) : Option En := bif Nat.blt pc 84 then (bif Nat.blt pc 37 then
(bif Nat.blt pc 16 then
(bif Nat.blt pc 7 then
(bif Nat.blt pc 2 then
(bif Nat.blt pc 1 then
(bif Nat.beq pc 0 then en (.aconst_null) 0 0 0 0 else none) else
(bif Nat.beq pc 1 then en (.astore_n 2) 0 0 0 0 else none)) else
(bif Nat.blt pc 3 then
(bif Nat.beq pc 2 then en (.aload_n 0) 0 0 0 0 else none) else
(bif Nat.blt pc 6 then
(bif Nat.beq pc 3 then en (.getfield 23) 1 4 202 0 else none) else
(bif Nat.beq pc 6 then en (.astore_n 3) 0 0 0 0 else none)))) else
(bif Nat.blt pc 11 then
(bif Nat.blt pc 8 then
(bif Nat.beq pc 7 then en (.aload_n 3) 0 0 0 0 else none) else
(bif Nat.blt pc 9 then
(bif Nat.beq pc 8 then en (.arraylength) 0 0 0 0 else none) else
(bif Nat.beq pc 9 then en (.istore 4) 0 0 0 0 else none))) else
(bif Nat.blt pc 12 then
(bif Nat.beq pc 11 then en (.iconst 0) 0 0 0 0 else none) else
(bif Nat.blt pc 14 then
(bif Nat.beq pc 12 then en (.istore 5) 0 0 0 0 else none) else
(bif Nat.beq pc 14 then en (.iload 5) 0 0 0 0 else none))))) else
(bif Nat.blt pc 25 then
(bif Nat.blt pc 21 then
(bif Nat.blt pc 18 then
(bif Nat.beq pc 16 then en (.iload 4) 0 0 0 0 else none) else
(bif Nat.beq pc 18 then en (.if_icmp .ge 64) 82 0 0 0 else none)) else
(bif Nat.blt pc 22 then
(bif Nat.beq pc 21 then en (.aload_n 3) 0 0 0 0 else none) else
(bif Nat.blt pc 24 then
(bif Nat.beq pc 22 then en (.iload 5) 0 0 0 0 else none) else
(bif Nat.beq pc 24 then en (.aaload) 0 0 0 0 else none)))) else
(bif Nat.blt pc 31 then
(bif Nat.blt pc 27 then
(bif Nat.beq pc 25 then en (.astore 6) 0 0 0 0 else none) else
(bif Nat.blt pc 28 then
(bif Nat.beq pc 27 then en (.aload_n 1) 0 0 0 0 else none) else
(bif Nat.beq pc 28 then en (.ifnull 12) 40 0 0 0 else none))) else
(bif Nat.blt pc 32 then
(bif Nat.beq pc 31 then en (.aload_n 1) 0 0 0 0 else none) else
(bif Nat.blt pc 34 then
(bif Nat.beq pc 32 then en (.aload 6) 0 0 0 0 else none) else
(bif Nat.beq pc 34 then en (.invokevirtual 226) 87 0 451 45302 else none)))))) else
(bif Nat.blt pc 61 then
(bif Nat.blt pc 47 then
(bif Nat.blt pc 41 then
(bif Nat.blt pc 40 then
(bif Nat.beq pc 37 then en (.ifCond .eq 7) 44 0 0 0 else none) else
(bif Nat.beq pc 40 then en (.iconst 1) 0 0 0 0 else none)) else
(bif Nat.blt pc 44 then
(bif Nat.beq pc 41 then en (.goto 4) 45 0 0 0 else none) else
(bif Nat.blt pc 45 then
(bif Nat.beq pc 44 then en (.iconst 0) 0 0 0 0 else none) else
(bif Nat.beq pc 45 then en (.istore 7) 0 0 0 0 else none)))) else
(bif Nat.blt pc 55 then
(bif Nat.blt pc 49 then
(bif Nat.beq pc 47 then en (.aload 6) 0 0 0 0 else none) else
(bif Nat.blt pc 52 then
(bif Nat.beq pc 49 then en (.invokevirtual 165) 82 0 377 37902 else none) else
(bif Nat.beq pc 52 then en (.ifCond .eq 24) 76 0 0 0 else none))) else
(bif Nat.blt pc 57 then
(bif Nat.beq pc 55 then en (.iload 7) 0 0 0 0 else none) else
(bif Nat.blt pc 60 then
(bif Nat.beq pc 57 then en (.ifCond .eq 19) 76 0 0 0 else none) else
(bif Nat.beq pc 60 then en (.aload_n 2) 0 0 0 0 else none))))) else
(bif Nat.blt pc 73 then
(bif Nat.blt pc 66 then
(bif Nat.blt pc 64 then
(bif Nat.beq pc 61 then en (.ifnull 12) 73 0 0 0 else none) else
(bif Nat.beq pc 64 then en (.aload 6) 0 0 0 0 else none)) else
(bif Nat.blt pc 67 then
(bif Nat.beq pc 66 then en (.aload_n 2) 0 0 0 0 else none) else
(bif Nat.blt pc 70 then
(bif Nat.beq pc 67 then en (.invokevirtual 226) 87 0 451 45302 else none) else
(bif Nat.beq pc 70 then en (.ifCond .eq 6) 76 0 0 0 else none)))) else
(bif Nat.blt pc 79 then
(bif Nat.blt pc 75 then
(bif Nat.beq pc 73 then en (.aload 6) 0 0 0 0 else none) else
(bif Nat.blt pc 76 then
(bif Nat.beq pc 75 then en (.astore_n 2) 0 0 0 0 else none) else
(bif Nat.beq pc 76 then en (.iinc 5 1) 0 0 0 0 else none))) else
(bif Nat.blt pc 82 then
(bif Nat.beq pc 79 then en (.goto (-65)) 14 0 0 0 else none) else
(bif Nat.blt pc 83 then
(bif Nat.beq pc 82 then en (.aload_n 2) 0 0 0 0 else none) else
(bif Nat.beq pc 83 then en (.areturn) 0 0 0 0 else none))))))) else none
/-- SingleTrackLine$Line.copyAlone(LSingleTrackLine$Line;I)V -/
def mc51 (pc : Nat) : Option En := bif Nat.blt pc 68 then (bif Nat.blt pc 28 then
(bif Nat.blt pc 12 then
(bif Nat.blt pc 6 then
(bif Nat.blt pc 2 then
(bif Nat.blt pc 1 then
(bif Nat.beq pc 0 then en (.aload_n 0) 0 0 0 0 else none) else
(bif Nat.beq pc 1 then en (.aload_n 1) 0 0 0 0 else none)) else
(bif Nat.blt pc 5 then
(bif Nat.beq pc 2 then en (.invokevirtual 230) 35 0 530 38701 else none) else
(bif Nat.beq pc 5 then en (.aload_n 0) 0 0 0 0 else none))) else
(bif Nat.blt pc 10 then
(bif Nat.blt pc 9 then
(bif Nat.beq pc 6 then en (.getfield 23) 1 4 202 0 else none) else
(bif Nat.beq pc 9 then en (.astore_n 3) 0 0 0 0 else none)) else
(bif Nat.blt pc 11 then
(bif Nat.beq pc 10 then en (.aload_n 3) 0 0 0 0 else none) else
(bif Nat.beq pc 11 then en (.arraylength) 0 0 0 0 else none)))) else
(bif Nat.blt pc 19 then
(bif Nat.blt pc 15 then
(bif Nat.blt pc 14 then
(bif Nat.beq pc 12 then en (.istore 4) 0 0 0 0 else none) else
(bif Nat.beq pc 14 then en (.iconst 0) 0 0 0 0 else none)) else
(bif Nat.blt pc 17 then
(bif Nat.beq pc 15 then en (.istore 5) 0 0 0 0 else none) else
(bif Nat.beq pc 17 then en (.iload 5) 0 0 0 0 else none))) else
(bif Nat.blt pc 24 then
(bif Nat.blt pc 21 then
(bif Nat.beq pc 19 then en (.iload 4) 0 0 0 0 else none) else
(bif Nat.beq pc 21 then en (.if_icmp .ge 41) 62 0 0 0 else none)) else
(bif Nat.blt pc 25 then
(bif Nat.beq pc 24 then en (.aload_n 3) 0 0 0 0 else none) else
(bif Nat.blt pc 27 then
(bif Nat.beq pc 25 then en (.iload 5) 0 0 0 0 else none) else
(bif Nat.beq pc 27 then en (.aaload) 0 0 0 0 else none)))))) else
(bif Nat.blt pc 48 then
(bif Nat.blt pc 36 then
(bif Nat.blt pc 32 then
(bif Nat.blt pc 30 then
(bif Nat.beq pc 28 then en (.astore 6) 0 0 0 0 else none) else
(bif Nat.beq pc 30 then en (.aload 6) 0 0 0 0 else none)) else
(bif Nat.blt pc 35 then
(bif Nat.beq pc 32 then en (.getfield 119) 2 1 137 0 else none) else
(bif Nat.beq pc 35 then en (.iload_n 2) 0 0 0 0 else none))) else
(bif Nat.blt pc 41 then
(bif Nat.blt pc 39 then
(bif Nat.beq pc 36 then en (.if_icmp .ne 12) 48 0 0 0 else none) else
(bif Nat.beq pc 39 then en (.aload 6) 0 0 0 0 else none)) else
(bif Nat.blt pc 42 then
(bif Nat.beq pc 41 then en (.iconst 0) 0 0 0 0 else none) else
(bif Nat.blt pc 45 then
(bif Nat.beq pc 42 then en (.putfield 151) 2 9 161 0 else none) else
(bif Nat.beq pc 45 then en (.goto 11) 56 0 0 0 else none))))) else
(bif Nat.blt pc 59 then
(bif Nat.blt pc 53 then
(bif Nat.blt pc 50 then
(bif Nat.beq pc 48 then en (.aload 6) 0 0 0 0 else none) else
(bif Nat.beq pc 50 then en (.getstatic 178) 0 0 431 0 else none)) else
(bif Nat.blt pc 56 then
(bif Nat.beq pc 53 then en (.putfield 116) 2 0 135 0 else none) else
(bif Nat.beq pc 56 then en (.iinc 5 1) 0 0 0 0 else none))) else
(bif Nat.blt pc 63 then
(bif Nat.blt pc 62 then
(bif Nat.beq pc 59 then en (.goto (-42)) 17 0 0 0 else none) else
(bif Nat.beq pc 62 then en (.aload_n 0) 0 0 0 0 else none)) else
(bif Nat.blt pc 64 then
(bif Nat.beq pc 63 then en (.iconst 1) 0 0 0 0 else none) else
(bif Nat.blt pc 67 then
(bif Nat.beq pc 64 then en (.putfield 42) 1 5 204 0 else none) else
(bif Nat.beq pc 67 then en (.return_) 0 0 0 0 else none))))))) else none
/-- SingleTrackLine$Line.passUntilArrival(I)I -/
def mc52 (pc : Nat) : Option En := bif Nat.blt pc 34 then (bif Nat.blt pc 15 then
(bif Nat.blt pc 6 then
(bif Nat.blt pc 2 then
(bif Nat.blt pc 1 then
(bif Nat.beq pc 0 then en (.iconst 0) 0 0 0 0 else none) else
(bif Nat.beq pc 1 then en (.istore_n 2) 0 0 0 0 else none)) else
(bif Nat.blt pc 3 then
(bif Nat.beq pc 2 then en (.iload_n 2) 0 0 0 0 else none) else
(bif Nat.beq pc 3 then en (.sipush 300) 0 0 0 0 else none))) else
(bif Nat.blt pc 10 then
(bif Nat.blt pc 9 then
(bif Nat.beq pc 6 then en (.if_icmp .ge 26) 32 0 0 0 else none) else
(bif Nat.beq pc 9 then en (.aload_n 0) 0 0 0 0 else none)) else
(bif Nat.blt pc 13 then
(bif Nat.beq pc 10 then en (.invokevirtual 175) 44 0 400 201 else none) else
(bif Nat.blt pc 14 then
(bif Nat.beq pc 13 then en (.aload_n 0) 0 0 0 0 else none) else
(bif Nat.beq pc 14 then en (.iload_n 1) 0 0 0 0 else none))))) else
(bif Nat.blt pc 25 then
(bif Nat.blt pc 21 then
(bif Nat.blt pc 18 then
(bif Nat.beq pc 15 then en (.invokevirtual 161) 58 0 535 37501 else none) else
(bif Nat.beq pc 18 then en (.ifnonnull 8) 26 0 0 0 else none)) else
(bif Nat.blt pc 22 then
(bif Nat.beq pc 21 then en (.aload_n 0) 0 0 0 0 else none) else
(bif Nat.beq pc 22 then en (.getfield 48) 1 7 207 0 else none))) else
(bif Nat.blt pc 29 then
(bif Nat.blt pc 26 then
(bif Nat.beq pc 25 then en (.ireturn) 0 0 0 0 else none) else
(bif Nat.beq pc 26 then en (.iinc 2 1) 0 0 0 0 else none)) else
(bif Nat.blt pc 32 then
(bif Nat.beq pc 29 then en (.goto (-27)) 2 0 0 0 else none) else
(bif Nat.blt pc 33 then
(bif Nat.beq pc 32 then en (.iconst (-1)) 0 0 0 0 else none) else
(bif Nat.beq pc 33 then en (.ireturn) 0 0 0 0 else none)))))) else none
/-- SingleTrackLine$Line.passUntilStuck()I -/
def mc53 (pc : Nat) : Option En := bif Nat.blt pc 31 then (bif Nat.blt pc 13 then
(bif Nat.blt pc 3 then
(bif Nat.blt pc 1 then
(bif Nat.beq pc 0 then en (.iconst 0) 0 0 0 0 else none) else
(bif Nat.blt pc 2 then
(bif Nat.beq pc 1 then en (.istore_n 1) 0 0 0 0 else none) else
(bif Nat.beq pc 2 then en (.iload_n 1) 0 0 0 0 else none))) else
(bif Nat.blt pc 9 then
(bif Nat.blt pc 6 then
(bif Nat.beq pc 3 then en (.sipush 300) 0 0 0 0 else none) else
(bif Nat.beq pc 6 then en (.if_icmp .ge 20) 26 0 0 0 else none)) else
(bif Nat.blt pc 10 then
(bif Nat.beq pc 9 then en (.aload_n 0) 0 0 0 0 else none) else
(bif Nat.beq pc 10 then en (.getfield 42) 1 5 204 0 else none)))) else
(bif Nat.blt pc 23 then
(bif Nat.blt pc 17 then
(bif Nat.blt pc 16 then
(bif Nat.beq pc 13 then en (.ifCond .le 13) 26 0 0 0 else none) else
(bif Nat.beq pc 16 then en (.aload_n 0) 0 0 0 0 else none)) else
(bif Nat.blt pc 20 then
(bif Nat.beq pc 17 then en (.invokevirtual 175) 44 0 400 201 else none) else
(bif Nat.beq pc 20 then en (.iinc 1 1) 0 0 0 0 else none))) else
(bif Nat.blt pc 27 then
(bif Nat.blt pc 26 then
(bif Nat.beq pc 23 then en (.goto (-21)) 2 0 0 0 else none) else
(bif Nat.beq pc 26 then en (.aload_n 0) 0 0 0 0 else none)) else
(bif Nat.blt pc 30 then
(bif Nat.beq pc 27 then en (.getfield 42) 1 5 204 0 else none) else
(bif Nat.beq pc 30 then en (.ireturn) 0 0 0 0 else none))))) else none
/-- SingleTrackLine$Line.confirmsPlansOf(LSingleTrackLine$Line;)Z -/
def mc54 (pc : Nat) : Option En := bif Nat.blt pc 69 then (bif Nat.blt pc 29 then
(bif Nat.blt pc 13 then
(bif Nat.blt pc 6 then
(bif Nat.blt pc 4 then
(bif Nat.blt pc 1 then
(bif Nat.beq pc 0 then en (.aload_n 1) 0 0 0 0 else none) else
(bif Nat.beq pc 1 then en (.getfield 23) 1 4 202 0 else none)) else
(bif Nat.blt pc 5 then
(bif Nat.beq pc 4 then en (.astore_n 2) 0 0 0 0 else none) else
(bif Nat.beq pc 5 then en (.aload_n 2) 0 0 0 0 else none))) else
(bif Nat.blt pc 8 then
(bif Nat.blt pc 7 then
(bif Nat.beq pc 6 then en (.arraylength) 0 0 0 0 else none) else
(bif Nat.beq pc 7 then en (.istore_n 3) 0 0 0 0 else none)) else
(bif Nat.blt pc 9 then
(bif Nat.beq pc 8 then en (.iconst 0) 0 0 0 0 else none) else
(bif Nat.blt pc 11 then
(bif Nat.beq pc 9 then en (.istore 4) 0 0 0 0 else none) else
(bif Nat.beq pc 11 then en (.iload 4) 0 0 0 0 else none))))) else
(bif Nat.blt pc 20 then
(bif Nat.blt pc 17 then
(bif Nat.blt pc 14 then
(bif Nat.beq pc 13 then en (.iload_n 3) 0 0 0 0 else none) else
(bif Nat.beq pc 14 then en (.if_icmp .ge 53) 67 0 0 0 else none)) else
(bif Nat.blt pc 18 then
(bif Nat.beq pc 17 then en (.aload_n 2) 0 0 0 0 else none) else
(bif Nat.beq pc 18 then en (.iload 4) 0 0 0 0 else none))) else
(bif Nat.blt pc 23 then
(bif Nat.blt pc 21 then
(bif Nat.beq pc 20 then en (.aaload) 0 0 0 0 else none) else
(bif Nat.beq pc 21 then en (.astore 5) 0 0 0 0 else none)) else
(bif Nat.blt pc 24 then
(bif Nat.beq pc 23 then en (.aload_n 1) 0 0 0 0 else none) else
(bif Nat.blt pc 26 then
(bif Nat.beq pc 24 then en (.aload 5) 0 0 0 0 else none) else
(bif Nat.beq pc 26 then en (.invokevirtual 233) 63 0 522 52401 else none)))))) else
(bif Nat.blt pc 48 then
(bif Nat.blt pc 36 then
(bif Nat.blt pc 33 then
(bif Nat.blt pc 32 then
(bif Nat.beq pc 29 then en (.ifCond .eq 32) 61 0 0 0 else none) else
(bif Nat.beq pc 32 then en (.aload_n 0) 0 0 0 0 else none)) else
(bif Nat.blt pc 34 then
(bif Nat.beq pc 33 then en (.aload_n 1) 0 0 0 0 else none) else
(bif Nat.beq pc 34 then en (.aload 5) 0 0 0 0 else none))) else
(bif Nat.blt pc 42 then
(bif Nat.blt pc 39 then
(bif Nat.beq pc 36 then en (.getfield 119) 2 1 137 0 else none) else
(bif Nat.beq pc 39 then en (.invokevirtual 236) 51 0 526 52801 else none)) else
(bif Nat.blt pc 43 then
(bif Nat.beq pc 42 then en (.aload_n 0) 0 0 0 0 else none) else
(bif Nat.blt pc 45 then
(bif Nat.beq pc 43 then en (.aload 5) 0 0 0 0 else none) else
(bif Nat.beq pc 45 then en (.getfield 119) 2 1 137 0 else none))))) else
(bif Nat.blt pc 60 then
(bif Nat.blt pc 53 then
(bif Nat.blt pc 51 then
(bif Nat.beq pc 48 then en (.invokevirtual 240) 52 0 531 53301 else none) else
(bif Nat.beq pc 51 then en (.aload 5) 0 0 0 0 else none)) else
(bif Nat.blt pc 56 then
(bif Nat.beq pc 53 then en (.getfield 139) 2 5 149 0 else none) else
(bif Nat.blt pc 59 then
(bif Nat.beq pc 56 then en (.if_icmp .eq 5) 61 0 0 0 else none) else
(bif Nat.beq pc 59 then en (.iconst 0) 0 0 0 0 else none)))) else
(bif Nat.blt pc 64 then
(bif Nat.blt pc 61 then
(bif Nat.beq pc 60 then en (.ireturn) 0 0 0 0 else none) else
(bif Nat.beq pc 61 then en (.iinc 4 1) 0 0 0 0 else none)) else
(bif Nat.blt pc 67 then
(bif Nat.beq pc 64 then en (.goto (-53)) 11 0 0 0 else none) else
(bif Nat.blt pc 68 then
(bif Nat.beq pc 67 then en (.iconst 1) 0 0 0 0 else none) else
(bif Nat.beq pc 68 then en (.ireturn) 0 0 0 0 else none))))))) else none
/-- SingleTrackLine$Line.hasStation(I)Z -/
def mc55 (pc : Nat) : Option En := bif Nat.blt pc 18 then (bif Nat.blt pc 9 then
(bif Nat.blt pc 4 then
(bif Nat.blt pc 1 then
(bif Nat.beq pc 0 then en (.iload_n 1) 0 0 0 0 else none) else
(bif Nat.beq pc 1 then en (.ifCond .lt 15) 16 0 0 0 else none)) else
(bif Nat.blt pc 5 then
(bif Nat.beq pc 4 then en (.iload_n 1) 0 0 0 0 else none) else
(bif Nat.blt pc 6 then
(bif Nat.beq pc 5 then en (.aload_n 0) 0 0 0 0 else none) else
(bif Nat.beq pc 6 then en (.getfield 28) 1 0 195 0 else none)))) else
(bif Nat.blt pc 13 then
(bif Nat.blt pc 12 then
(bif Nat.beq pc 9 then en (.if_icmp .ge 7) 16 0 0 0 else none) else
(bif Nat.beq pc 12 then en (.iconst 1) 0 0 0 0 else none)) else
(bif Nat.blt pc 16 then
(bif Nat.beq pc 13 then en (.goto 4) 17 0 0 0 else none) else
(bif Nat.blt pc 17 then
(bif Nat.beq pc 16 then en (.iconst 0) 0 0 0 0 else none) else
(bif Nat.beq pc 17 then en (.ireturn) 0 0 0 0 else none))))) else none
/-- SingleTrackLine$Line.hasSection(I)Z -/
def mc56 (pc : Nat) : Option En := bif Nat.blt pc 20 then (bif Nat.blt pc 10 then
(bif Nat.blt pc 5 then
(bif Nat.blt pc 1 then
(bif Nat.beq pc 0 then en (.iload_n 1) 0 0 0 0 else none) else
(bif Nat.blt pc 4 then
(bif Nat.beq pc 1 then en (.ifCond .lt 17) 18 0 0 0 else none) else
(bif Nat.beq pc 4 then en (.iload_n 1) 0 0 0 0 else none))) else
(bif Nat.blt pc 6 then
(bif Nat.beq pc 5 then en (.aload_n 0) 0 0 0 0 else none) else
(bif Nat.blt pc 9 then
(bif Nat.beq pc 6 then en (.getfield 28) 1 0 195 0 else none) else
(bif Nat.beq pc 9 then en (.iconst 1) 0 0 0 0 else none)))) else
(bif Nat.blt pc 15 then
(bif Nat.blt pc 11 then
(bif Nat.beq pc 10 then en (.isub) 0 0 0 0 else none) else
(bif Nat.blt pc 14 then
(bif Nat.beq pc 11 then en (.if_icmp .ge 7) 18 0 0 0 else none) else
(bif Nat.beq pc 14 then en (.iconst 1) 0 0 0 0 else none))) else
(bif Nat.blt pc 18 then
(bif Nat.beq pc 15 then en (.goto 4) 19 0 0 0 else none) else
(bif Nat.blt pc 19 then
(bif Nat.beq pc 18 then en (.iconst 0) 0 0 0 0 else none) else
(bif Nat.beq pc 19 then en (.ireturn) 0 0 0 0 else none))))) else none
/-- SingleTrackLine$Line.isTrackCount(I)Z -/
def mc57 (pc : Nat) : Option En := bif Nat.blt pc 16 then (bif Nat.blt pc 7 then
(bif Nat.blt pc 2 then
(bif Nat.blt pc 1 then
(bif Nat.beq pc 0 then en (.iload_n 0) 0 0 0 0 else none) else
(bif Nat.beq pc 1 then en (.iconst 1) 0 0 0 0 else none)) else
(bif Nat.blt pc 5 then
(bif Nat.beq pc 2 then en (.if_icmp .lt 12) 14 0 0 0 else none) else
(bif Nat.blt pc 6 then
(bif Nat.beq pc 5 then en (.iload_n 0) 0 0 0 0 else none) else
(bif Nat.beq pc 6 then en (.iconst 4) 0 0 0 0 else none)))) else
(bif Nat.blt pc 11 then
(bif Nat.blt pc 10 then
(bif Nat.beq pc 7 then en (.if_icmp .gt 7) 14 0 0 0 else none) else
(bif Nat.beq pc 10 then en (.iconst 1) 0 0 0 0 else none)) else
(bif Nat.blt pc 14 then
(bif Nat.beq pc 11 then en (.goto 4) 15 0 0 0 else none) else
(bif Nat.blt pc 15 then
(bif Nat.beq pc 14 then en (.iconst 0) 0 0 0 0 else none) else
(bif Nat.beq pc 15 then en (.ireturn) 0 0 0 0 else none))))) else none
/-- SingleTrackLine$Line.findTrain(I)LSingleTrackLine$Train; -/
def mc58 (pc : Nat) : Option En := bif Nat.blt pc 51 then (bif Nat.blt pc 21 then
(bif Nat.blt pc 9 then
(bif Nat.blt pc 5 then
(bif Nat.blt pc 1 then
(bif Nat.beq pc 0 then en (.aload_n 0) 0 0 0 0 else none) else
(bif Nat.blt pc 4 then
(bif Nat.beq pc 1 then en (.getfield 23) 1 4 202 0 else none) else
(bif Nat.beq pc 4 then en (.astore_n 2) 0 0 0 0 else none))) else
(bif Nat.blt pc 7 then
(bif Nat.blt pc 6 then
(bif Nat.beq pc 5 then en (.aload_n 2) 0 0 0 0 else none) else
(bif Nat.beq pc 6 then en (.arraylength) 0 0 0 0 else none)) else
(bif Nat.blt pc 8 then
(bif Nat.beq pc 7 then en (.istore_n 3) 0 0 0 0 else none) else
(bif Nat.beq pc 8 then en (.iconst 0) 0 0 0 0 else none)))) else
(bif Nat.blt pc 14 then
(bif Nat.blt pc 11 then
(bif Nat.beq pc 9 then en (.istore 4) 0 0 0 0 else none) else
(bif Nat.blt pc 13 then
(bif Nat.beq pc 11 then en (.iload 4) 0 0 0 0 else none) else
(bif Nat.beq pc 13 then en (.iload_n 3) 0 0 0 0 else none))) else
(bif Nat.blt pc 18 then
(bif Nat.blt pc 17 then
(bif Nat.beq pc 14 then en (.if_icmp .ge 35) 49 0 0 0 else none) else
(bif Nat.beq pc 17 then en (.aload_n 2) 0 0 0 0 else none)) else
(bif Nat.blt pc 20 then
(bif Nat.beq pc 18 then en (.iload 4) 0 0 0 0 else none) else
(bif Nat.beq pc 20 then en (.aaload) 0 0 0 0 else none))))) else
(bif Nat.blt pc 37 then
(bif Nat.blt pc 28 then
(bif Nat.blt pc 23 then
(bif Nat.beq pc 21 then en (.astore 5) 0 0 0 0 else none) else
(bif Nat.blt pc 25 then
(bif Nat.beq pc 23 then en (.aload 5) 0 0 0 0 else none) else
(bif Nat.beq pc 25 then en (.invokevirtual 165) 82 0 377 37902 else none))) else
(bif Nat.blt pc 33 then
(bif Nat.blt pc 31 then
(bif Nat.beq pc 28 then en (.ifCond .eq 15) 43 0 0 0 else none) else
(bif Nat.beq pc 31 then en (.aload 5) 0 0 0 0 else none)) else
(bif Nat.blt pc 36 then
(bif Nat.beq pc 33 then en (.getfield 119) 2 1 137 0 else none) else
(bif Nat.beq pc 36 then en (.iload_n 1) 0 0 0 0 else none)))) else
(bif Nat.blt pc 43 then
(bif Nat.blt pc 40 then
(bif Nat.beq pc 37 then en (.if_icmp .ne 6) 43 0 0 0 else none) else
(bif Nat.blt pc 42 then
(bif Nat.beq pc 40 then en (.aload 5) 0 0 0 0 else none) else
(bif Nat.beq pc 42 then en (.areturn) 0 0 0 0 else none))) else
(bif Nat.blt pc 49 then
(bif Nat.blt pc 46 then
(bif Nat.beq pc 43 then en (.iinc 4 1) 0 0 0 0 else none) else
(bif Nat.beq pc 46 then en (.goto (-35)) 11 0 0 0 else none)) else
(bif Nat.blt pc 50 then
(bif Nat.beq pc 49 then en (.aconst_null) 0 0 0 0 else none) else
(bif Nat.beq pc 50 then en (.areturn) 0 0 0 0 else none)))))) else none
/-- SingleTrackLine$Line.findHolder(I)LSingleTrackLine$Train; -/
def mc59 (pc : Nat) : Option En := bif Nat.blt pc 54 then (bif Nat.blt pc 21 then
(bif Nat.blt pc 9 then
(bif Nat.blt pc 5 then
(bif Nat.blt pc 1 then
(bif Nat.beq pc 0 then en (.aload_n 0) 0 0 0 0 else none) else
(bif Nat.blt pc 4 then
(bif Nat.beq pc 1 then en (.getfield 23) 1 4 202 0 else none) else
(bif Nat.beq pc 4 then en (.astore_n 2) 0 0 0 0 else none))) else
(bif Nat.blt pc 7 then
(bif Nat.blt pc 6 then
(bif Nat.beq pc 5 then en (.aload_n 2) 0 0 0 0 else none) else
(bif Nat.beq pc 6 then en (.arraylength) 0 0 0 0 else none)) else
(bif Nat.blt pc 8 then
(bif Nat.beq pc 7 then en (.istore_n 3) 0 0 0 0 else none) else
(bif Nat.beq pc 8 then en (.iconst 0) 0 0 0 0 else none)))) else
(bif Nat.blt pc 14 then
(bif Nat.blt pc 11 then
(bif Nat.beq pc 9 then en (.istore 4) 0 0 0 0 else none) else
(bif Nat.blt pc 13 then
(bif Nat.beq pc 11 then en (.iload 4) 0 0 0 0 else none) else
(bif Nat.beq pc 13 then en (.iload_n 3) 0 0 0 0 else none))) else
(bif Nat.blt pc 18 then
(bif Nat.blt pc 17 then
(bif Nat.beq pc 14 then en (.if_icmp .ge 38) 52 0 0 0 else none) else
(bif Nat.beq pc 17 then en (.aload_n 2) 0 0 0 0 else none)) else
(bif Nat.blt pc 20 then
(bif Nat.beq pc 18 then en (.iload 4) 0 0 0 0 else none) else
(bif Nat.beq pc 20 then en (.aaload) 0 0 0 0 else none))))) else
(bif Nat.blt pc 39 then
(bif Nat.blt pc 28 then
(bif Nat.blt pc 23 then
(bif Nat.beq pc 21 then en (.astore 5) 0 0 0 0 else none) else
(bif Nat.blt pc 25 then
(bif Nat.beq pc 23 then en (.aload 5) 0 0 0 0 else none) else
(bif Nat.beq pc 25 then en (.getfield 116) 2 0 135 0 else none))) else
(bif Nat.blt pc 34 then
(bif Nat.blt pc 31 then
(bif Nat.beq pc 28 then en (.getstatic 169) 3 0 412 0 else none) else
(bif Nat.beq pc 31 then en (.if_acmp .ne 15) 46 0 0 0 else none)) else
(bif Nat.blt pc 36 then
(bif Nat.beq pc 34 then en (.aload 5) 0 0 0 0 else none) else
(bif Nat.beq pc 36 then en (.getfield 145) 2 7 156 0 else none)))) else
(bif Nat.blt pc 46 then
(bif Nat.blt pc 43 then
(bif Nat.blt pc 40 then
(bif Nat.beq pc 39 then en (.iload_n 1) 0 0 0 0 else none) else
(bif Nat.beq pc 40 then en (.if_icmp .ne 6) 46 0 0 0 else none)) else
(bif Nat.blt pc 45 then
(bif Nat.beq pc 43 then en (.aload 5) 0 0 0 0 else none) else
(bif Nat.beq pc 45 then en (.areturn) 0 0 0 0 else none))) else
(bif Nat.blt pc 52 then
(bif Nat.blt pc 49 then
(bif Nat.beq pc 46 then en (.iinc 4 1) 0 0 0 0 else none) else
(bif Nat.beq pc 49 then en (.goto (-38)) 11 0 0 0 else none)) else
(bif Nat.blt pc 53 then
(bif Nat.beq pc 52 then en (.aconst_null) 0 0 0 0 else none) else
(bif Nat.beq pc 53 then en (.areturn) 0 0 0 0 else none)))))) else none
/-- SingleTrackLine$Line.countFreeTracks(I)I -/
def mc60 (pc : Nat) : Option En := bif Nat.blt pc 121 then (bif Nat.blt pc 51 then
(bif Nat.blt pc 25 then
(bif Nat.blt pc 13 then
(bif Nat.blt pc 5 then
(bif Nat.blt pc 1 then
(bif Nat.beq pc 0 then en (.iload_n 1) 0 0 0 0 else none) else
(bif Nat.blt pc 4 then
(bif Nat.beq pc 1 then en (.ifCond .lt 11) 12 0 0 0 else none) else
(bif Nat.beq pc 4 then en (.iload_n 1) 0 0 0 0 else none))) else
(bif Nat.blt pc 9 then
(bif Nat.blt pc 6 then
(bif Nat.beq pc 5 then en (.aload_n 0) 0 0 0 0 else none) else
(bif Nat.beq pc 6 then en (.getfield 28) 1 0 195 0 else none)) else
(bif Nat.blt pc 12 then
(bif Nat.beq pc 9 then en (.if_icmp .lt 5) 14 0 0 0 else none) else
(bif Nat.beq pc 12 then en (.iconst 0) 0 0 0 0 else none)))) else
(bif Nat.blt pc 19 then
(bif Nat.blt pc 15 then
(bif Nat.blt pc 14 then
(bif Nat.beq pc 13 then en (.ireturn) 0 0 0 0 else none) else
(bif Nat.beq pc 14 then en (.aload_n 0) 0 0 0 0 else none)) else
(bif Nat.blt pc 18 then
(bif Nat.beq pc 15 then en (.getfield 9) 1 1 197 0 else none) else
(bif Nat.beq pc 18 then en (.iload_n 1) 0 0 0 0 else none))) else
(bif Nat.blt pc 21 then
(bif Nat.blt pc 20 then
(bif Nat.beq pc 19 then en (.iaload) 0 0 0 0 else none) else
(bif Nat.beq pc 20 then en (.istore_n 2) 0 0 0 0 else none)) else
(bif Nat.blt pc 22 then
(bif Nat.beq pc 21 then en (.aload_n 0) 0 0 0 0 else none) else
(bif Nat.beq pc 22 then en (.getfield 23) 1 4 202 0 else none))))) else
(bif Nat.blt pc 35 then
(bif Nat.blt pc 28 then
(bif Nat.blt pc 26 then
(bif Nat.beq pc 25 then en (.astore_n 3) 0 0 0 0 else none) else
(bif Nat.blt pc 27 then
(bif Nat.beq pc 26 then en (.aload_n 3) 0 0 0 0 else none) else
(bif Nat.beq pc 27 then en (.arraylength) 0 0 0 0 else none))) else
(bif Nat.blt pc 31 then
(bif Nat.blt pc 30 then
(bif Nat.beq pc 28 then en (.istore 4) 0 0 0 0 else none) else
(bif Nat.beq pc 30 then en (.iconst 0) 0 0 0 0 else none)) else
(bif Nat.blt pc 33 then
(bif Nat.beq pc 31 then en (.istore 5) 0 0 0 0 else none) else
(bif Nat.beq pc 33 then en (.iload 5) 0 0 0 0 else none)))) else
(bif Nat.blt pc 43 then
(bif Nat.blt pc 40 then
(bif Nat.blt pc 37 then
(bif Nat.beq pc 35 then en (.iload 4) 0 0 0 0 else none) else
(bif Nat.beq pc 37 then en (.if_icmp .ge 82) 119 0 0 0 else none)) else
(bif Nat.blt pc 41 then
(bif Nat.beq pc 40 then en (.aload_n 3) 0 0 0 0 else none) else
(bif Nat.beq pc 41 then en (.iload 5) 0 0 0 0 else none))) else
(bif Nat.blt pc 46 then
(bif Nat.blt pc 44 then
(bif Nat.beq pc 43 then en (.aaload) 0 0 0 0 else none) else
(bif Nat.beq pc 44 then en (.astore 6) 0 0 0 0 else none)) else
(bif Nat.blt pc 48 then
(bif Nat.beq pc 46 then en (.aload 6) 0 0 0 0 else none) else
(bif Nat.beq pc 48 then en (.getfield 116) 2 0 135 0 else none)))))) else
(bif Nat.blt pc 85 then
(bif Nat.blt pc 66 then
(bif Nat.blt pc 58 then
(bif Nat.blt pc 54 then
(bif Nat.beq pc 51 then en (.getstatic 207) 2 0 442 0 else none) else
(bif Nat.blt pc 57 then
(bif Nat.beq pc 54 then en (.if_acmp .ne 7) 61 0 0 0 else none) else
(bif Nat.beq pc 57 then en (.iconst 1) 0 0 0 0 else none))) else
(bif Nat.blt pc 62 then
(bif Nat.blt pc 61 then
(bif Nat.beq pc 58 then en (.goto 4) 62 0 0 0 else none) else
(bif Nat.beq pc 61 then en (.iconst 0) 0 0 0 0 else none)) else
(bif Nat.blt pc 64 then
(bif Nat.beq pc 62 then en (.istore 7) 0 0 0 0 else none) else
(bif Nat.beq pc 64 then en (.aload 6) 0 0 0 0 else none)))) else
(bif Nat.blt pc 77 then
(bif Nat.blt pc 72 then
(bif Nat.blt pc 69 then
(bif Nat.beq pc 66 then en (.getfield 116) 2 0 135 0 else none) else
(bif Nat.beq pc 69 then en (.getstatic 169) 3 0 412 0 else none)) else
(bif Nat.blt pc 75 then
(bif Nat.beq pc 72 then en (.if_acmp .ne 16) 88 0 0 0 else none) else
(bif Nat.beq pc 75 then en (.aload 6) 0 0 0 0 else none))) else
(bif Nat.blt pc 81 then
(bif Nat.blt pc 80 then
(bif Nat.beq pc 77 then en (.getfield 125) 2 3 144 0 else none) else
(bif Nat.beq pc 80 then en (.iload_n 1) 0 0 0 0 else none)) else
(bif Nat.blt pc 84 then
(bif Nat.beq pc 81 then en (.if_icmp .eq 7) 88 0 0 0 else none) else
(bif Nat.beq pc 84 then en (.iconst 1) 0 0 0 0 else none))))) else
(bif Nat.blt pc 102 then
(bif Nat.blt pc 93 then
(bif Nat.blt pc 89 then
(bif Nat.blt pc 88 then
(bif Nat.beq pc 85 then en (.goto 4) 89 0 0 0 else none) else
(bif Nat.beq pc 88 then en (.iconst 0) 0 0 0 0 else none)) else
(bif Nat.blt pc 91 then
(bif Nat.beq pc 89 then en (.istore 8) 0 0 0 0 else none) else
(bif Nat.beq pc 91 then en (.aload 6) 0 0 0 0 else none))) else
(bif Nat.blt pc 97 then
(bif Nat.blt pc 96 then
(bif Nat.beq pc 93 then en (.getfield 142) 2 6 153 0 else none) else
(bif Nat.beq pc 96 then en (.iload_n 1) 0 0 0 0 else none)) else
(bif Nat.blt pc 100 then
(bif Nat.beq pc 97 then en (.if_icmp .ne 16) 113 0 0 0 else none) else
(bif Nat.beq pc 100 then en (.iload 7) 0 0 0 0 else none)))) else
(bif Nat.blt pc 113 then
(bif Nat.blt pc 107 then
(bif Nat.blt pc 105 then
(bif Nat.beq pc 102 then en (.ifCond .ne 8) 110 0 0 0 else none) else
(bif Nat.beq pc 105 then en (.iload 8) 0 0 0 0 else none)) else
(bif Nat.blt pc 110 then
(bif Nat.beq pc 107 then en (.ifCond .eq 6) 113 0 0 0 else none) else
(bif Nat.beq pc 110 then en (.iinc 2 (-1)) 0 0 0 0 else none))) else
(bif Nat.blt pc 119 then
(bif Nat.blt pc 116 then
(bif Nat.beq pc 113 then en (.iinc 5 1) 0 0 0 0 else none) else
(bif Nat.beq pc 116 then en (.goto (-83)) 33 0 0 0 else none)) else
(bif Nat.blt pc 120 then
(bif Nat.beq pc 119 then en (.iload_n 2) 0 0 0 0 else none) else
(bif Nat.beq pc 120 then en (.ireturn) 0 0 0 0 else none))))))) else none
/-- SingleTrackLine$Line.sumRunningTimes(II)I -/
def mc61 (pc : Nat) : Option En := bif Nat.blt pc 46 then (bif Nat.blt pc 22 then
(bif Nat.blt pc 9 then
(bif Nat.blt pc 3 then
(bif Nat.blt pc 1 then
(bif Nat.beq pc 0 then en (.iconst 0) 0 0 0 0 else none) else
(bif Nat.blt pc 2 then
(bif Nat.beq pc 1 then en (.istore_n 3) 0 0 0 0 else none) else
(bif Nat.beq pc 2 then en (.iload_n 1) 0 0 0 0 else none))) else
(bif Nat.blt pc 4 then
(bif Nat.beq pc 3 then en (.iload_n 2) 0 0 0 0 else none) else
(bif Nat.blt pc 7 then
(bif Nat.beq pc 4 then en (.invokestatic 216) 0 9 463 0 else none) else
(bif Nat.beq pc 7 then en (.istore 4) 0 0 0 0 else none)))) else
(bif Nat.blt pc 13 then
(bif Nat.blt pc 11 then
(bif Nat.beq pc 9 then en (.iload 4) 0 0 0 0 else none) else
(bif Nat.blt pc 12 then
(bif Nat.beq pc 11 then en (.iload_n 1) 0 0 0 0 else none) else
(bif Nat.beq pc 12 then en (.iload_n 2) 0 0 0 0 else none))) else
(bif Nat.blt pc 19 then
(bif Nat.blt pc 16 then
(bif Nat.beq pc 13 then en (.invokestatic 200) 0 8 424 0 else none) else
(bif Nat.beq pc 16 then en (.if_icmp .ge 28) 44 0 0 0 else none)) else
(bif Nat.blt pc 20 then
(bif Nat.beq pc 19 then en (.aload_n 0) 0 0 0 0 else none) else
(bif Nat.beq pc 20 then en (.iload 4) 0 0 0 0 else none))))) else
(bif Nat.blt pc 35 then
(bif Nat.blt pc 29 then
(bif Nat.blt pc 25 then
(bif Nat.beq pc 22 then en (.invokevirtual 219) 56 0 466 46801 else none) else
(bif Nat.blt pc 28 then
(bif Nat.beq pc 25 then en (.ifCond .eq 13) 38 0 0 0 else none) else
(bif Nat.beq pc 28 then en (.iload_n 3) 0 0 0 0 else none))) else
(bif Nat.blt pc 30 then
(bif Nat.beq pc 29 then en (.aload_n 0) 0 0 0 0 else none) else
(bif Nat.blt pc 33 then
(bif Nat.beq pc 30 then en (.getfield 15) 1 2 199 0 else none) else
(bif Nat.beq pc 33 then en (.iload 4) 0 0 0 0 else none)))) else
(bif Nat.blt pc 38 then
(bif Nat.blt pc 36 then
(bif Nat.beq pc 35 then en (.iaload) 0 0 0 0 else none) else
(bif Nat.blt pc 37 then
(bif Nat.beq pc 36 then en (.iadd) 0 0 0 0 else none) else
(bif Nat.beq pc 37 then en (.istore_n 3) 0 0 0 0 else none))) else
(bif Nat.blt pc 44 then
(bif Nat.blt pc 41 then
(bif Nat.beq pc 38 then en (.iinc 4 1) 0 0 0 0 else none) else
(bif Nat.beq pc 41 then en (.goto (-32)) 9 0 0 0 else none)) else
(bif Nat.blt pc 45 then
(bif Nat.beq pc 44 then en (.iload_n 3) 0 0 0 0 else none) else
(bif Nat.beq pc 45 then en (.ireturn) 0 0 0 0 else none)))))) else none
/-- SingleTrackLine$Line.subtractPositions(II)I -/
def mc62 (pc : Nat) : Option En := bif Nat.blt pc 35 then (bif Nat.blt pc 18 then
(bif Nat.blt pc 9 then
(bif Nat.blt pc 2 then
(bif Nat.blt pc 1 then
(bif Nat.beq pc 0 then en (.aload_n 0) 0 0 0 0 else none) else
(bif Nat.beq pc 1 then en (.iload_n 1) 0 0 0 0 else none)) else
(bif Nat.blt pc 5 then
(bif Nat.beq pc 2 then en (.invokevirtual 104) 55 0 511 51301 else none) else
(bif Nat.blt pc 8 then
(bif Nat.beq pc 5 then en (.ifCond .eq 11) 16 0 0 0 else none) else
(bif Nat.beq pc 8 then en (.aload_n 0) 0 0 0 0 else none)))) else
(bif Nat.blt pc 13 then
(bif Nat.blt pc 10 then
(bif Nat.beq pc 9 then en (.iload_n 2) 0 0 0 0 else none) else
(bif Nat.beq pc 10 then en (.invokevirtual 104) 55 0 511 51301 else none)) else
(bif Nat.blt pc 16 then
(bif Nat.beq pc 13 then en (.ifCond .ne 5) 18 0 0 0 else none) else
(bif Nat.blt pc 17 then
(bif Nat.beq pc 16 then en (.iconst 0) 0 0 0 0 else none) else
(bif Nat.beq pc 17 then en (.ireturn) 0 0 0 0 else none))))) else
(bif Nat.blt pc 25 then
(bif Nat.blt pc 22 then
(bif Nat.blt pc 19 then
(bif Nat.beq pc 18 then en (.aload_n 0) 0 0 0 0 else none) else
(bif Nat.beq pc 19 then en (.getfield 18) 1 3 201 0 else none)) else
(bif Nat.blt pc 23 then
(bif Nat.beq pc 22 then en (.iload_n 1) 0 0 0 0 else none) else
(bif Nat.blt pc 24 then
(bif Nat.beq pc 23 then en (.iaload) 0 0 0 0 else none) else
(bif Nat.beq pc 24 then en (.aload_n 0) 0 0 0 0 else none)))) else
(bif Nat.blt pc 30 then
(bif Nat.blt pc 28 then
(bif Nat.beq pc 25 then en (.getfield 18) 1 3 201 0 else none) else
(bif Nat.blt pc 29 then
(bif Nat.beq pc 28 then en (.iload_n 2) 0 0 0 0 else none) else
(bif Nat.beq pc 29 then en (.iaload) 0 0 0 0 else none))) else
(bif Nat.blt pc 31 then
(bif Nat.beq pc 30 then en (.isub) 0 0 0 0 else none) else
(bif Nat.blt pc 34 then
(bif Nat.beq pc 31 then en (.invokestatic 134) 0 10 515 0 else none) else
(bif Nat.beq pc 34 then en (.ireturn) 0 0 0 0 else none)))))) else none
/-- SingleTrackLine$Line.isYetToDepart(LSingleTrackLine$Train;)Z -/
def mc63 (pc : Nat) : Option En := bif Nat.blt pc 27 then (bif Nat.blt pc 14 then
(bif Nat.blt pc 7 then
(bif Nat.blt pc 1 then
(bif Nat.beq pc 0 then en (.aload_n 1) 0 0 0 0 else none) else
(bif Nat.blt pc 4 then
(bif Nat.beq pc 1 then en (.getfield 116) 2 0 135 0 else none) else
(bif Nat.beq pc 4 then en (.getstatic 110) 1 0 436 0 else none))) else
(bif Nat.blt pc 10 then
(bif Nat.beq pc 7 then en (.if_acmp .ne 18) 25 0 0 0 else none) else
(bif Nat.blt pc 11 then
(bif Nat.beq pc 10 then en (.aload_n 1) 0 0 0 0 else none) else
(bif Nat.beq pc 11 then en (.getfield 128) 2 4 146 0 else none)))) else
(bif Nat.blt pc 21 then
(bif Nat.blt pc 15 then
(bif Nat.beq pc 14 then en (.aload_n 0) 0 0 0 0 else none) else
(bif Nat.blt pc 18 then
(bif Nat.beq pc 15 then en (.getfield 48) 1 7 207 0 else none) else
(bif Nat.beq pc 18 then en (.if_icmp .le 7) 25 0 0 0 else none))) else
(bif Nat.blt pc 25 then
(bif Nat.blt pc 22 then
(bif Nat.beq pc 21 then en (.iconst 1) 0 0 0 0 else none) else
(bif Nat.beq pc 22 then en (.goto 4) 26 0 0 0 else none)) else
(bif Nat.blt pc 26 then
(bif Nat.beq pc 25 then en (.iconst 0) 0 0 0 0 else none) else
(bif Nat.beq pc 26 then en (.ireturn) 0 0 0 0 else none))))) else none
/-- SingleTrackLine$Line.findRank(LSingleTrackLine$Train;)I -/
def mc64 (pc : Nat) : Option En := bif Nat.blt pc 55 then (bif Nat.blt pc 22 then
(bif Nat.blt pc 9 then
(bif Nat.blt pc 3 then
(bif Nat.blt pc 1 then
(bif Nat.beq pc 0 then en (.iconst 0) 0 0 0 0 else none) else
(bif Nat.blt pc 2 then
(bif Nat.beq pc 1 then en (.istore_n 2) 0 0 0 0 else none) else
(bif Nat.beq pc 2 then en (.aload_n 0) 0 0 0 0 else none))) else
(bif Nat.blt pc 7 then
(bif Nat.blt pc 6 then
(bif Nat.beq pc 3 then en (.getfield 23) 1 4 202 0 else none) else
(bif Nat.beq pc 6 then en (.astore_n 3) 0 0 0 0 else none)) else
(bif Nat.blt pc 8 then
(bif Nat.beq pc 7 then en (.aload_n 3) 0 0 0 0 else none) else
(bif Nat.beq pc 8 then en (.arraylength) 0 0 0 0 else none)))) else
(bif Nat.blt pc 14 then
(bif Nat.blt pc 11 then
(bif Nat.beq pc 9 then en (.istore 4) 0 0 0 0 else none) else
(bif Nat.blt pc 12 then
(bif Nat.beq pc 11 then en (.iconst 0) 0 0 0 0 else none) else
(bif Nat.beq pc 12 then en (.istore 5) 0 0 0 0 else none))) else
(bif Nat.blt pc 18 then
(bif Nat.blt pc 16 then
(bif Nat.beq pc 14 then en (.iload 5) 0 0 0 0 else none) else
(bif Nat.beq pc 16 then en (.iload 4) 0 0 0 0 else none)) else
(bif Nat.blt pc 21 then
(bif Nat.beq pc 18 then en (.if_icmp .ge 35) 53 0 0 0 else none) else
(bif Nat.beq pc 21 then en (.aload_n 3) 0 0 0 0 else none))))) else
(bif Nat.blt pc 37 then
(bif Nat.blt pc 27 then
(bif Nat.blt pc 24 then
(bif Nat.beq pc 22 then en (.iload 5) 0 0 0 0 else none) else
(bif Nat.blt pc 25 then
(bif Nat.beq pc 24 then en (.aaload) 0 0 0 0 else none) else
(bif Nat.beq pc 25 then en (.astore 6) 0 0 0 0 else none))) else
(bif Nat.blt pc 32 then
(bif Nat.blt pc 29 then
(bif Nat.beq pc 27 then en (.aload 6) 0 0 0 0 else none) else
(bif Nat.beq pc 29 then en (.invokevirtual 165) 82 0 377 37902 else none)) else
(bif Nat.blt pc 35 then
(bif Nat.beq pc 32 then en (.ifCond .eq 15) 47 0 0 0 else none) else
(bif Nat.beq pc 35 then en (.aload 6) 0 0 0 0 else none)))) else
(bif Nat.blt pc 47 then
(bif Nat.blt pc 41 then
(bif Nat.blt pc 38 then
(bif Nat.beq pc 37 then en (.aload_n 1) 0 0 0 0 else none) else
(bif Nat.beq pc 38 then en (.invokevirtual 243) 88 0 1262 126402 else none)) else
(bif Nat.blt pc 44 then
(bif Nat.beq pc 41 then en (.ifCond .eq 6) 47 0 0 0 else none) else
(bif Nat.beq pc 44 then en (.iinc 2 1) 0 0 0 0 else none))) else
(bif Nat.blt pc 53 then
(bif Nat.blt pc 50 then
(bif Nat.beq pc 47 then en (.iinc 5 1) 0 0 0 0 else none) else
(bif Nat.beq pc 50 then en (.goto (-36)) 14 0 0 0 else none)) else
(bif Nat.blt pc 54 then
(bif Nat.beq pc 53 then en (.iload_n 2) 0 0 0 0 else none) else
(bif Nat.beq pc 54 then en (.ireturn) 0 0 0 0 else none)))))) else none
/-- SingleTrackLine$Line.hasNoOverfullStation()Z -/
def mc65 (pc : Nat) : Option En := bif Nat.blt pc 28 then (bif Nat.blt pc 12 then
(bif Nat.blt pc 4 then
(bif Nat.blt pc 2 then
(bif Nat.blt pc 1 then
(bif Nat.beq pc 0 then en (.iconst 0) 0 0 0 0 else none) else
(bif Nat.beq pc 1 then en (.istore_n 1) 0 0 0 0 else none)) else
(bif Nat.blt pc 3 then
(bif Nat.beq pc 2 then en (.iload_n 1) 0 0 0 0 else none) else
(bif Nat.beq pc 3 then en (.aload_n 0) 0 0 0 0 else none))) else
(bif Nat.blt pc 10 then
(bif Nat.blt pc 7 then
(bif Nat.beq pc 4 then en (.getfield 28) 1 0 195 0 else none) else
(bif Nat.beq pc 7 then en (.if_icmp .ge 19) 26 0 0 0 else none)) else
(bif Nat.blt pc 11 then
(bif Nat.beq pc 10 then en (.aload_n 0) 0 0 0 0 else none) else
(bif Nat.beq pc 11 then en (.iload_n 1) 0 0 0 0 else none)))) else
(bif Nat.blt pc 20 then
(bif Nat.blt pc 18 then
(bif Nat.blt pc 15 then
(bif Nat.beq pc 12 then en (.invokevirtual 107) 60 0 438 44001 else none) else
(bif Nat.beq pc 15 then en (.ifCond .ge 5) 20 0 0 0 else none)) else
(bif Nat.blt pc 19 then
(bif Nat.beq pc 18 then en (.iconst 0) 0 0 0 0 else none) else
(bif Nat.beq pc 19 then en (.ireturn) 0 0 0 0 else none))) else
(bif Nat.blt pc 26 then
(bif Nat.blt pc 23 then
(bif Nat.beq pc 20 then en (.iinc 1 1) 0 0 0 0 else none) else
(bif Nat.beq pc 23 then en (.goto (-21)) 2 0 0 0 else none)) else
(bif Nat.blt pc 27 then
(bif Nat.beq pc 26 then en (.iconst 1) 0 0 0 0 else none) else
(bif Nat.beq pc 27 then en (.ireturn) 0 0 0 0 else none))))) else none
/-- SingleTrackLine$Line.hasNoSharedSection()Z -/
def mc66 (pc : Nat) : Option En := bif Nat.blt pc 55 then (bif Nat.blt pc 20 then
(bif Nat.blt pc 9 then
(bif Nat.blt pc 5 then
(bif Nat.blt pc 1 then
(bif Nat.beq pc 0 then en (.aload_n 0) 0 0 0 0 else none) else
(bif Nat.blt pc 4 then
(bif Nat.beq pc 1 then en (.getfield 23) 1 4 202 0 else none) else
(bif Nat.beq pc 4 then en (.astore_n 1) 0 0 0 0 else none))) else
(bif Nat.blt pc 7 then
(bif Nat.blt pc 6 then
(bif Nat.beq pc 5 then en (.aload_n 1) 0 0 0 0 else none) else
(bif Nat.beq pc 6 then en (.arraylength) 0 0 0 0 else none)) else
(bif Nat.blt pc 8 then
(bif Nat.beq pc 7 then en (.istore_n 2) 0 0 0 0 else none) else
(bif Nat.beq pc 8 then en (.iconst 0) 0 0 0 0 else none)))) else
(bif Nat.blt pc 15 then
(bif Nat.blt pc 11 then
(bif Nat.blt pc 10 then
(bif Nat.beq pc 9 then en (.istore_n 3) 0 0 0 0 else none) else
(bif Nat.beq pc 10 then en (.iload_n 3) 0 0 0 0 else none)) else
(bif Nat.blt pc 12 then
(bif Nat.beq pc 11 then en (.iload_n 2) 0 0 0 0 else none) else
(bif Nat.beq pc 12 then en (.if_icmp .ge 41) 53 0 0 0 else none))) else
(bif Nat.blt pc 17 then
(bif Nat.blt pc 16 then
(bif Nat.beq pc 15 then en (.aload_n 1) 0 0 0 0 else none) else
(bif Nat.beq pc 16 then en (.iload_n 3) 0 0 0 0 else none)) else
(bif Nat.blt pc 18 then
(bif Nat.beq pc 17 then en (.aaload) 0 0 0 0 else none) else
(bif Nat.beq pc 18 then en (.astore 4) 0 0 0 0 else none))))) else
(bif Nat.blt pc 40 then
(bif Nat.blt pc 31 then
(bif Nat.blt pc 25 then
(bif Nat.blt pc 22 then
(bif Nat.beq pc 20 then en (.aload 4) 0 0 0 0 else none) else
(bif Nat.beq pc 22 then en (.getfield 116) 2 0 135 0 else none)) else
(bif Nat.blt pc 28 then
(bif Nat.beq pc 25 then en (.getstatic 169) 3 0 412 0 else none) else
(bif Nat.beq pc 28 then en (.if_acmp .ne 19) 47 0 0 0 else none))) else
(bif Nat.blt pc 34 then
(bif Nat.blt pc 32 then
(bif Nat.beq pc 31 then en (.aload_n 0) 0 0 0 0 else none) else
(bif Nat.beq pc 32 then en (.aload 4) 0 0 0 0 else none)) else
(bif Nat.blt pc 37 then
(bif Nat.beq pc 34 then en (.getfield 145) 2 7 156 0 else none) else
(bif Nat.beq pc 37 then en (.invokevirtual 190) 59 0 408 41001 else none)))) else
(bif Nat.blt pc 47 then
(bif Nat.blt pc 45 then
(bif Nat.blt pc 42 then
(bif Nat.beq pc 40 then en (.aload 4) 0 0 0 0 else none) else
(bif Nat.beq pc 42 then en (.if_acmp .eq 5) 47 0 0 0 else none)) else
(bif Nat.blt pc 46 then
(bif Nat.beq pc 45 then en (.iconst 0) 0 0 0 0 else none) else
(bif Nat.beq pc 46 then en (.ireturn) 0 0 0 0 else none))) else
(bif Nat.blt pc 53 then
(bif Nat.blt pc 50 then
(bif Nat.beq pc 47 then en (.iinc 3 1) 0 0 0 0 else none) else
(bif Nat.beq pc 50 then en (.goto (-40)) 10 0 0 0 else none)) else
(bif Nat.blt pc 54 then
(bif Nat.beq pc 53 then en (.iconst 1) 0 0 0 0 else none) else
(bif Nat.beq pc 54 then en (.ireturn) 0 0 0 0 else none)))))) else none
/-- SingleTrackLine$Line.hasAgreeingDistances()Z -/
def mc67 (pc : Nat) : Option En := bif Nat.blt pc 51 then (bif Nat.blt pc 22 then
(bif Nat.blt pc 11 then
(bif Nat.blt pc 3 then
(bif Nat.blt pc 1 then
(bif Nat.beq pc 0 then en (.iconst 0) 0 0 0 0 else none) else
(bif Nat.blt pc 2 then
(bif Nat.beq pc 1 then en (.istore_n 1) 0 0 0 0 else none) else
(bif Nat.beq pc 2 then en (.iload_n 1) 0 0 0 0 else none))) else
(bif Nat.blt pc 7 then
(bif Nat.blt pc 4 then
(bif Nat.beq pc 3 then en (.aload_n 0) 0 0 0 0 else none) else
(bif Nat.beq pc 4 then en (.getfield 28) 1 0 195 0 else none)) else
(bif Nat.blt pc 10 then
(bif Nat.beq pc 7 then en (.if_icmp .ge 42) 49 0 0 0 else none) else
(bif Nat.beq pc 10 then en (.iconst 0) 0 0 0 0 else none)))) else
(bif Nat.blt pc 14 then
(bif Nat.blt pc 12 then
(bif Nat.beq pc 11 then en (.istore_n 2) 0 0 0 0 else none) else
(bif Nat.blt pc 13 then
(bif Nat.beq pc 12 then en (.iload_n 2) 0 0 0 0 else none) else
(bif Nat.beq pc 13 then en (.aload_n 0) 0 0 0 0 else none))) else
(bif Nat.blt pc 20 then
(bif Nat.blt pc 17 then
(bif Nat.beq pc 14 then en (.getfield 28) 1 0 195 0 else none) else
(bif Nat.beq pc 17 then en (.if_icmp .ge 26) 43 0 0 0 else none)) else
(bif Nat.blt pc 21 then
(bif Nat.beq pc 20 then en (.aload_n 0) 0 0 0 0 else none) else
(bif Nat.beq pc 21 then en (.iload_n 1) 0 0 0 0 else none))))) else
(bif Nat.blt pc 35 then
(bif Nat.blt pc 27 then
(bif Nat.blt pc 23 then
(bif Nat.beq pc 22 then en (.iload_n 2) 0 0 0 0 else none) else
(bif Nat.blt pc 26 then
(bif Nat.beq pc 23 then en (.invokevirtual 131) 61 0 503 50501 else none) else
(bif Nat.beq pc 26 then en (.aload_n 0) 0 0 0 0 else none))) else
(bif Nat.blt pc 29 then
(bif Nat.blt pc 28 then
(bif Nat.beq pc 27 then en (.iload_n 1) 0 0 0 0 else none) else
(bif Nat.beq pc 28 then en (.iload_n 2) 0 0 0 0 else none)) else
(bif Nat.blt pc 32 then
(bif Nat.beq pc 29 then en (.invokevirtual 246) 62 0 507 50901 else none) else
(bif Nat.beq pc 32 then en (.if_icmp .eq 5) 37 0 0 0 else none)))) else
(bif Nat.blt pc 43 then
(bif Nat.blt pc 37 then
(bif Nat.blt pc 36 then
(bif Nat.beq pc 35 then en (.iconst 0) 0 0 0 0 else none) else
(bif Nat.beq pc 36 then en (.ireturn) 0 0 0 0 else none)) else
(bif Nat.blt pc 40 then
(bif Nat.beq pc 37 then en (.iinc 2 1) 0 0 0 0 else none) else
(bif Nat.beq pc 40 then en (.goto (-28)) 12 0 0 0 else none))) else
(bif Nat.blt pc 49 then
(bif Nat.blt pc 46 then
(bif Nat.beq pc 43 then en (.iinc 1 1) 0 0 0 0 else none) else
(bif Nat.beq pc 46 then en (.goto (-44)) 2 0 0 0 else none)) else
(bif Nat.blt pc 50 then
(bif Nat.beq pc 49 then en (.iconst 1) 0 0 0 0 else none) else
(bif Nat.beq pc 50 then en (.ireturn) 0 0 0 0 else none)))))) else none
/-- SingleTrackLine$Program.<init>()V -/
def mc68 (pc : Nat) : Option En := bif Nat.blt pc 27 then (bif Nat.blt pc 13 then
(bif Nat.blt pc 5 then
(bif Nat.blt pc 1 then
(bif Nat.beq pc 0 then en (.aload_n 0) 0 0 0 0 else none) else
(bif Nat.blt pc 4 then
(bif Nat.beq pc 1 then en (.invokespecial 3) 0 7 271 0 else none) else
(bif Nat.beq pc 4 then en (.aload_n 0) 0 0 0 0 else none))) else
(bif Nat.blt pc 9 then
(bif Nat.blt pc 7 then
(bif Nat.beq pc 5 then en (.bipush 60) 0 0 0 0 else none) else
(bif Nat.beq pc 7 then en (.newarray .char) 0 0 0 0 else none)) else
(bif Nat.blt pc 12 then
(bif Nat.beq pc 9 then en (.putfield 9) 4 0 274 0 else none) else
(bif Nat.beq pc 12 then en (.aload_n 0) 0 0 0 0 else none)))) else
(bif Nat.blt pc 20 then
(bif Nat.blt pc 16 then
(bif Nat.beq pc 13 then en (.getstatic 15) 10 0 272 0 else none) else
(bif Nat.blt pc 19 then
(bif Nat.beq pc 16 then en (.putfield 21) 4 4 279 0 else none) else
(bif Nat.beq pc 19 then en (.aload_n 0) 0 0 0 0 else none))) else
(bif Nat.blt pc 23 then
(bif Nat.blt pc 21 then
(bif Nat.beq pc 20 then en (.iconst 3) 0 0 0 0 else none) else
(bif Nat.beq pc 21 then en (.newarray .int) 0 0 0 0 else none)) else
(bif Nat.blt pc 26 then
(bif Nat.beq pc 23 then en (.putfield 24) 4 5 281 0 else none) else
(bif Nat.beq pc 26 then en (.return_) 0 0 0 0 else none))))) else none
/-- SingleTrackLine$Program.isFull()Z -/
def mc69 (pc : Nat) : Option En := bif Nat.blt pc 15 then (bif Nat.blt pc 9 then
(bif Nat.blt pc 4 then
(bif Nat.blt pc 1 then
(bif Nat.beq pc 0 then en (.aload_n 0) 0 0 0 0 else none) else
(bif Nat.beq pc 1 then en (.getfield 28) 4 1 275 0 else none)) else
(bif Nat.blt pc 6 then
(bif Nat.beq pc 4 then en (.bipush 60) 0 0 0 0 else none) else
(bif Nat.beq pc 6 then en (.if_icmp .lt 7) 13 0 0 0 else none))) else
(bif Nat.blt pc 13 then
(bif Nat.blt pc 10 then
(bif Nat.beq pc 9 then en (.iconst 1) 0 0 0 0 else none) else
(bif Nat.beq pc 10 then en (.goto 4) 14 0 0 0 else none)) else
(bif Nat.blt pc 14 then
(bif Nat.beq pc 13 then en (.iconst 0) 0 0 0 0 else none) else
(bif Nat.beq pc 14 then en (.ireturn) 0 0 0 0 else none)))) else none
/-- SingleTrackLine$Program.put(C)I -/
def mc70 (pc : Nat) : Option En := bif Nat.blt pc 32 then (bif Nat.blt pc 17 then
(bif Nat.blt pc 8 then
(bif Nat.blt pc 4 then
(bif Nat.blt pc 1 then
(bif Nat.beq pc 0 then en (.aload_n 0) 0 0 0 0 else none) else
(bif Nat.beq pc 1 then en (.invokevirtual 32) 69 0 1332 132504 else none)) else
(bif Nat.blt pc 7 then
(bif Nat.beq pc 4 then en (.ifCond .ne 23) 27 0 0 0 else none) else
(bif Nat.beq pc 7 then en (.aload_n 0) 0 0 0 0 else none))) else
(bif Nat.blt pc 12 then
(bif Nat.blt pc 11 then
(bif Nat.beq pc 8 then en (.getfield 9) 4 0 274 0 else none) else
(bif Nat.beq pc 11 then en (.aload_n 0) 0 0 0 0 else none)) else
(bif Nat.blt pc 15 then
(bif Nat.beq pc 12 then en (.getfield 28) 4 1 275 0 else none) else
(bif Nat.blt pc 16 then
(bif Nat.beq pc 15 then en (.iload_n 1) 0 0 0 0 else none) else
(bif Nat.beq pc 16 then en (.castore) 0 0 0 0 else none))))) else
(bif Nat.blt pc 23 then
(bif Nat.blt pc 19 then
(bif Nat.blt pc 18 then
(bif Nat.beq pc 17 then en (.aload_n 0) 0 0 0 0 else none) else
(bif Nat.beq pc 18 then en (.dup) 0 0 0 0 else none)) else
(bif Nat.blt pc 22 then
(bif Nat.beq pc 19 then en (.getfield 28) 4 1 275 0 else none) else
(bif Nat.beq pc 22 then en (.iconst 1) 0 0 0 0 else none))) else
(bif Nat.blt pc 27 then
(bif Nat.blt pc 24 then
(bif Nat.beq pc 23 then en (.iadd) 0 0 0 0 else none) else
(bif Nat.beq pc 24 then en (.putfield 28) 4 1 275 0 else none)) else
(bif Nat.blt pc 28 then
(bif Nat.beq pc 27 then en (.aload_n 0) 0 0 0 0 else none) else
(bif Nat.blt pc 31 then
(bif Nat.beq pc 28 then en (.getfield 28) 4 1 275 0 else none) else
(bif Nat.beq pc 31 then en (.ireturn) 0 0 0 0 else none)))))) else none
/-- SingleTrackLine$Program.empty()V -/
def mc71 (pc : Nat) : Option En := bif Nat.blt pc 6 then (bif Nat.blt pc 2 then
(bif Nat.blt pc 1 then
(bif Nat.beq pc 0 then en (.aload_n 0) 0 0 0 0 else none) else
(bif Nat.beq pc 1 then en (.iconst 0) 0 0 0 0 else none)) else
(bif Nat.blt pc 5 then
(bif Nat.beq pc 2 then en (.putfield 28) 4 1 275 0 else none) else
(bif Nat.beq pc 5 then en (.return_) 0 0 0 0 else none))) else none
/-- SingleTrackLine$Program.rewind()V -/
def mc72 (pc : Nat) : Option En := bif Nat.blt pc 6 then (bif Nat.blt pc 2 then
(bif Nat.blt pc 1 then
(bif Nat.beq pc 0 then en (.aload_n 0) 0 0 0 0 else none) else
(bif Nat.beq pc 1 then en (.iconst 0) 0 0 0 0 else none)) else
(bif Nat.blt pc 5 then
(bif Nat.beq pc 2 then en (.putfield 36) 4 2 276 0 else none) else
(bif Nat.beq pc 5 then en (.return_) 0 0 0 0 else none))) else none
/-- SingleTrackLine$Program.findError()I -/
def mc73 (pc : Nat) : Option En := bif Nat.blt pc 76 then (bif Nat.blt pc 37 then
(bif Nat.blt pc 16 then
(bif Nat.blt pc 9 then
(bif Nat.blt pc 4 then
(bif Nat.blt pc 1 then
(bif Nat.beq pc 0 then en (.aload_n 0) 0 0 0 0 else none) else
(bif Nat.beq pc 1 then en (.invokevirtual 39) 72 0 1349 135104 else none)) else
(bif Nat.blt pc 5 then
(bif Nat.beq pc 4 then en (.aload_n 0) 0 0 0 0 else none) else
(bif Nat.blt pc 6 then
(bif Nat.beq pc 5 then en (.iconst 0) 0 0 0 0 else none) else
(bif Nat.beq pc 6 then en (.putfield 42) 4 3 277 0 else none)))) else
(bif Nat.blt pc 11 then
(bif Nat.blt pc 10 then
(bif Nat.beq pc 9 then en (.iconst 1) 0 0 0 0 else none) else
(bif Nat.beq pc 10 then en (.istore_n 1) 0 0 0 0 else none)) else
(bif Nat.blt pc 12 then
(bif Nat.beq pc 11 then en (.iload_n 1) 0 0 0 0 else none) else
(bif Nat.blt pc 15 then
(bif Nat.beq pc 12 then en (.ifCond .eq 44) 56 0 0 0 else none) else
(bif Nat.beq pc 15 then en (.aload_n 0) 0 0 0 0 else none))))) else
(bif Nat.blt pc 28 then
(bif Nat.blt pc 21 then
(bif Nat.blt pc 19 then
(bif Nat.beq pc 16 then en (.getfield 42) 4 3 277 0 else none) else
(bif Nat.beq pc 19 then en (.bipush 60) 0 0 0 0 else none)) else
(bif Nat.blt pc 24 then
(bif Nat.beq pc 21 then en (.if_icmp .ge 35) 56 0 0 0 else none) else
(bif Nat.blt pc 25 then
(bif Nat.beq pc 24 then en (.aload_n 0) 0 0 0 0 else none) else
(bif Nat.beq pc 25 then en (.invokevirtual 45) 75 0 1353 2604 else none)))) else
(bif Nat.blt pc 32 then
(bif Nat.blt pc 31 then
(bif Nat.beq pc 28 then en (.ifCond .ne 8) 36 0 0 0 else none) else
(bif Nat.beq pc 31 then en (.aload_n 0) 0 0 0 0 else none)) else
(bif Nat.blt pc 35 then
(bif Nat.beq pc 32 then en (.getfield 36) 4 2 276 0 else none) else
(bif Nat.blt pc 36 then
(bif Nat.beq pc 35 then en (.ireturn) 0 0 0 0 else none) else
(bif Nat.beq pc 36 then en (.aload_n 0) 0 0 0 0 else none)))))) else
(bif Nat.blt pc 56 then
(bif Nat.blt pc 46 then
(bif Nat.blt pc 41 then
(bif Nat.blt pc 38 then
(bif Nat.beq pc 37 then en (.dup) 0 0 0 0 else none) else
(bif Nat.beq pc 38 then en (.getfield 42) 4 3 277 0 else none)) else
(bif Nat.blt pc 42 then
(bif Nat.beq pc 41 then en (.iconst 1) 0 0 0 0 else none) else
(bif Nat.blt pc 43 then
(bif Nat.beq pc 42 then en (.iadd) 0 0 0 0 else none) else
(bif Nat.beq pc 43 then en (.putfield 42) 4 3 277 0 else none)))) else
(bif Nat.blt pc 49 then
(bif Nat.blt pc 47 then
(bif Nat.beq pc 46 then en (.aload_n 0) 0 0 0 0 else none) else
(bif Nat.beq pc 47 then en (.bipush 59) 0 0 0 0 else none)) else
(bif Nat.blt pc 52 then
(bif Nat.beq pc 49 then en (.invokevirtual 48) 80 0 1391 3104 else none) else
(bif Nat.blt pc 53 then
(bif Nat.beq pc 52 then en (.istore_n 1) 0 0 0 0 else none) else
(bif Nat.beq pc 53 then en (.goto (-42)) 11 0 0 0 else none))))) else
(bif Nat.blt pc 67 then
(bif Nat.blt pc 60 then
(bif Nat.blt pc 57 then
(bif Nat.beq pc 56 then en (.aload_n 0) 0 0 0 0 else none) else
(bif Nat.beq pc 57 then en (.getfield 36) 4 2 276 0 else none)) else
(bif Nat.blt pc 61 then
(bif Nat.beq pc 60 then en (.aload_n 0) 0 0 0 0 else none) else
(bif Nat.blt pc 64 then
(bif Nat.beq pc 61 then en (.getfield 28) 4 1 275 0 else none) else
(bif Nat.beq pc 64 then en (.if_icmp .ge 10) 74 0 0 0 else none)))) else
(bif Nat.blt pc 71 then
(bif Nat.blt pc 68 then
(bif Nat.beq pc 67 then en (.aload_n 0) 0 0 0 0 else none) else
(bif Nat.beq pc 68 then en (.getfield 36) 4 2 276 0 else none)) else
(bif Nat.blt pc 74 then
(bif Nat.beq pc 71 then en (.goto 4) 75 0 0 0 else none) else
(bif Nat.blt pc 75 then
(bif Nat.beq pc 74 then en (.iconst (-1)) 0 0 0 0 else none) else
(bif Nat.beq pc 75 then en (.ireturn) 0 0 0 0 else none))))))) else none
/-- SingleTrackLine$Program.readNextCommand()V -/
def mc74 (pc : Nat) : Option En := bif Nat.blt pc 13 then (bif Nat.blt pc 7 then
(bif Nat.blt pc 3 then
(bif Nat.blt pc 1 then
(bif Nat.beq pc 0 then en (.aload_n 0) 0 0 0 0 else none) else
(bif Nat.beq pc 1 then en (.bipush 59) 0 0 0 0 else none)) else
(bif Nat.blt pc 6 then
(bif Nat.beq pc 3 then en (.invokevirtual 48) 80 0 1391 3104 else none) else
(bif Nat.beq pc 6 then en (.pop) 0 0 0 0 else none))) else
(bif Nat.blt pc 11 then
(bif Nat.blt pc 8 then
(bif Nat.beq pc 7 then en (.aload_n 0) 0 0 0 0 else none) else
(bif Nat.beq pc 8 then en (.invokevirtual 45) 75 0 1353 2604 else none)) else
(bif Nat.blt pc 12 then
(bif Nat.beq pc 11 then en (.pop) 0 0 0 0 else none) else
(bif Nat.beq pc 12 then en (.return_) 0 0 0 0 else none)))) else none
/-- SingleTrackLine$Program.readCommand()Z -/
def mc75 (pc : Nat) : Option En := bif Nat.blt pc 78 then (bif Nat.blt pc 36 then
(bif Nat.blt pc 16 then
(bif Nat.blt pc 7 then
(bif Nat.blt pc 4 then
(bif Nat.blt pc 1 then
(bif Nat.beq pc 0 then en (.aload_n 0) 0 0 0 0 else none) else
(bif Nat.beq pc 1 then en (.getfield 36) 4 2 276 0 else none)) else
(bif Nat.blt pc 5 then
(bif Nat.beq pc 4 then en (.istore_n 1) 0 0 0 0 else none) else
(bif Nat.blt pc 6 then
(bif Nat.beq pc 5 then en (.iload_n 1) 0 0 0 0 else none) else
(bif Nat.beq pc 6 then en (.istore_n 2) 0 0 0 0 else none)))) else
(bif Nat.blt pc 12 then
(bif Nat.blt pc 10 then
(bif Nat.beq pc 7 then en (.getstatic 52) 11 1 1357 0 else none) else
(bif Nat.blt pc 11 then
(bif Nat.beq pc 10 then en (.astore_n 3) 0 0 0 0 else none) else
(bif Nat.beq pc 11 then en (.aload_n 3) 0 0 0 0 else none))) else
(bif Nat.blt pc 13 then
(bif Nat.beq pc 12 then en (.arraylength) 0 0 0 0 else none) else
(bif Nat.blt pc 15 then
(bif Nat.beq pc 13 then en (.istore 4) 0 0 0 0 else none) else
(bif Nat.beq pc 15 then en (.iconst 0) 0 0 0 0 else none))))) else
(bif Nat.blt pc 26 then
(bif Nat.blt pc 20 then
(bif Nat.blt pc 18 then
(bif Nat.beq pc 16 then en (.istore 5) 0 0 0 0 else none) else
(bif Nat.beq pc 18 then en (.iload 5) 0 0 0 0 else none)) else
(bif Nat.blt pc 22 then
(bif Nat.beq pc 20 then en (.iload 4) 0 0 0 0 else none) else
(bif Nat.blt pc 25 then
(bif Nat.beq pc 22 then en (.if_icmp .ge 49) 71 0 0 0 else none) else
(bif Nat.beq pc 25 then en (.aload_n 3) 0 0 0 0 else none)))) else
(bif Nat.blt pc 31 then
(bif Nat.blt pc 28 then
(bif Nat.beq pc 26 then en (.iload 5) 0 0 0 0 else none) else
(bif Nat.blt pc 29 then
(bif Nat.beq pc 28 then en (.aaload) 0 0 0 0 else none) else
(bif Nat.beq pc 29 then en (.astore 6) 0 0 0 0 else none))) else
(bif Nat.blt pc 32 then
(bif Nat.beq pc 31 then en (.aload_n 0) 0 0 0 0 else none) else
(bif Nat.blt pc 33 then
(bif Nat.beq pc 32 then en (.iload_n 1) 0 0 0 0 else none) else
(bif Nat.beq pc 33 then en (.putfield 36) 4 2 276 0 else none)))))) else
(bif Nat.blt pc 57 then
(bif Nat.blt pc 48 then
(bif Nat.blt pc 39 then
(bif Nat.blt pc 37 then
(bif Nat.beq pc 36 then en (.aload_n 0) 0 0 0 0 else none) else
(bif Nat.beq pc 37 then en (.aload 6) 0 0 0 0 else none)) else
(bif Nat.blt pc 42 then
(bif Nat.beq pc 39 then en (.getfield 56) 8 1 1988 0 else none) else
(bif Nat.blt pc 45 then
(bif Nat.beq pc 42 then en (.invokevirtual 60) 76 0 1359 2704 else none) else
(bif Nat.beq pc 45 then en (.ifCond .eq 11) 56 0 0 0 else none)))) else
(bif Nat.blt pc 54 then
(bif Nat.blt pc 49 then
(bif Nat.beq pc 48 then en (.aload_n 0) 0 0 0 0 else none) else
(bif Nat.blt pc 51 then
(bif Nat.beq pc 49 then en (.aload 6) 0 0 0 0 else none) else
(bif Nat.beq pc 51 then en (.putfield 21) 4 4 279 0 else none))) else
(bif Nat.blt pc 55 then
(bif Nat.beq pc 54 then en (.iconst 1) 0 0 0 0 else none) else
(bif Nat.blt pc 56 then
(bif Nat.beq pc 55 then en (.ireturn) 0 0 0 0 else none) else
(bif Nat.beq pc 56 then en (.iload_n 2) 0 0 0 0 else none))))) else
(bif Nat.blt pc 68 then
(bif Nat.blt pc 61 then
(bif Nat.blt pc 58 then
(bif Nat.beq pc 57 then en (.aload_n 0) 0 0 0 0 else none) else
(bif Nat.beq pc 58 then en (.getfield 36) 4 2 276 0 else none)) else
(bif Nat.blt pc 64 then
(bif Nat.beq pc 61 then en (.invokestatic 64) 0 8 1395 0 else none) else
(bif Nat.blt pc 65 then
(bif Nat.beq pc 64 then en (.istore_n 2) 0 0 0 0 else none) else
(bif Nat.beq pc 65 then en (.iinc 5 1) 0 0 0 0 else none)))) else
(bif Nat.blt pc 73 then
(bif Nat.blt pc 71 then
(bif Nat.beq pc 68 then en (.goto (-50)) 18 0 0 0 else none) else
(bif Nat.blt pc 72 then
(bif Nat.beq pc 71 then en (.aload_n 0) 0 0 0 0 else none) else
(bif Nat.beq pc 72 then en (.iload_n 2) 0 0 0 0 else none))) else
(bif Nat.blt pc 76 then
(bif Nat.beq pc 73 then en (.putfield 36) 4 2 276 0 else none) else
(bif Nat.blt pc 77 then
(bif Nat.beq pc 76 then en (.iconst 0) 0 0 0 0 else none) else
(bif Nat.beq pc 77 then en (.ireturn) 0 0 0 0 else none))))))) else none
/-- SingleTrackLine$Program.follow(Ljava/lang/String;)Z -/
def mc76 (pc : Nat) : Option En := bif Nat.blt pc 37 then (bif Nat.blt pc 16 then
(bif Nat.blt pc 7 then
(bif Nat.blt pc 2 then
(bif Nat.blt pc 1 then
(bif Nat.beq pc 0 then en (.aload_n 0) 0 0 0 0 else none) else
(bif Nat.beq pc 1 then en (.iconst 0) 0 0 0 0 else none)) else
(bif Nat.blt pc 5 then
(bif Nat.beq pc 2 then en (.putfield 70) 4 6 283 0 else none) else
(bif Nat.blt pc 6 then
(bif Nat.beq pc 5 then en (.iconst 0) 0 0 0 0 else none) else
(bif Nat.beq pc 6 then en (.istore_n 2) 0 0 0 0 else none)))) else
(bif Nat.blt pc 9 then
(bif Nat.blt pc 8 then
(bif Nat.beq pc 7 then en (.iload_n 2) 0 0 0 0 else none) else
(bif Nat.beq pc 8 then en (.aload_n 1) 0 0 0 0 else none)) else
(bif Nat.blt pc 12 then
(bif Nat.beq pc 9 then en (.invokevirtual 73) 13 0 1363 62807 else none) else
(bif Nat.blt pc 15 then
(bif Nat.beq pc 12 then en (.if_icmp .ge 23) 35 0 0 0 else none) else
(bif Nat.beq pc 15 then en (.aload_n 0) 0 0 0 0 else none))))) else
(bif Nat.blt pc 27 then
(bif Nat.blt pc 18 then
(bif Nat.blt pc 17 then
(bif Nat.beq pc 16 then en (.aload_n 1) 0 0 0 0 else none) else
(bif Nat.beq pc 17 then en (.iload_n 2) 0 0 0 0 else none)) else
(bif Nat.blt pc 21 then
(bif Nat.beq pc 18 then en (.invokevirtual 78) 14 0 1364 136607 else none) else
(bif Nat.blt pc 24 then
(bif Nat.beq pc 21 then en (.invokevirtual 82) 77 0 1379 2804 else none) else
(bif Nat.beq pc 24 then en (.ifCond .ne 5) 29 0 0 0 else none)))) else
(bif Nat.blt pc 32 then
(bif Nat.blt pc 28 then
(bif Nat.beq pc 27 then en (.iconst 0) 0 0 0 0 else none) else
(bif Nat.blt pc 29 then
(bif Nat.beq pc 28 then en (.ireturn) 0 0 0 0 else none) else
(bif Nat.beq pc 29 then en (.iinc 2 1) 0 0 0 0 else none))) else
(bif Nat.blt pc 35 then
(bif Nat.beq pc 32 then en (.goto (-25)) 7 0 0 0 else none) else
(bif Nat.blt pc 36 then
(bif Nat.beq pc 35 then en (.iconst 1) 0 0 0 0 else none) else
(bif Nat.beq pc 36 then en (.ireturn) 0 0 0 0 else none)))))) else none
/-- SingleTrackLine$Program.followSign(C)Z -/
def mc77 (pc : Nat) : Option En := bif Nat.blt pc 30 then (bif Nat.blt pc 15 then
(bif Nat.blt pc 7 then
(bif Nat.blt pc 3 then
(bif Nat.blt pc 1 then
(bif Nat.beq pc 0 then en (.iload_n 1) 0 0 0 0 else none) else
(bif Nat.beq pc 1 then en (.bipush 35) 0 0 0 0 else none)) else
(bif Nat.blt pc 6 then
(bif Nat.beq pc 3 then en (.if_icmp .ne 9) 12 0 0 0 else none) else
(bif Nat.beq pc 6 then en (.aload_n 0) 0 0 0 0 else none))) else
(bif Nat.blt pc 11 then
(bif Nat.blt pc 8 then
(bif Nat.beq pc 7 then en (.iconst 1) 0 0 0 0 else none) else
(bif Nat.beq pc 8 then en (.invokevirtual 85) 78 0 1383 2904 else none)) else
(bif Nat.blt pc 12 then
(bif Nat.beq pc 11 then en (.ireturn) 0 0 0 0 else none) else
(bif Nat.blt pc 13 then
(bif Nat.beq pc 12 then en (.iload_n 1) 0 0 0 0 else none) else
(bif Nat.beq pc 13 then en (.bipush 37) 0 0 0 0 else none))))) else
(bif Nat.blt pc 23 then
(bif Nat.blt pc 19 then
(bif Nat.blt pc 18 then
(bif Nat.beq pc 15 then en (.if_icmp .ne 9) 24 0 0 0 else none) else
(bif Nat.beq pc 18 then en (.aload_n 0) 0 0 0 0 else none)) else
(bif Nat.blt pc 20 then
(bif Nat.beq pc 19 then en (.iconst 2) 0 0 0 0 else none) else
(bif Nat.beq pc 20 then en (.invokevirtual 85) 78 0 1383 2904 else none))) else
(bif Nat.blt pc 25 then
(bif Nat.blt pc 24 then
(bif Nat.beq pc 23 then en (.ireturn) 0 0 0 0 else none) else
(bif Nat.beq pc 24 then en (.aload_n 0) 0 0 0 0 else none)) else
(bif Nat.blt pc 26 then
(bif Nat.beq pc 25 then en (.iload_n 1) 0 0 0 0 else none) else
(bif Nat.blt pc 29 then
(bif Nat.beq pc 26 then en (.invokevirtual 48) 80 0 1391 3104 else none) else
(bif Nat.beq pc 29 then en (.ireturn) 0 0 0 0 else none)))))) else none
/-- SingleTrackLine$Program.takeNumber(I)Z -/
def mc78 (pc : Nat) : Option En := bif Nat.blt pc 86 then (bif Nat.blt pc 40 then
(bif Nat.blt pc 20 then
(bif Nat.blt pc 6 then
(bif Nat.blt pc 3 then
(bif Nat.blt pc 1 then
(bif Nat.beq pc 0 then en (.iconst 0) 0 0 0 0 else none) else
(bif Nat.blt pc 2 then
(bif Nat.beq pc 1 then en (.istore_n 2) 0 0 0 0 else none) else
(bif Nat.beq pc 2 then en (.iconst 0) 0 0 0 0 else none))) else
(bif Nat.blt pc 4 then
(bif Nat.beq pc 3 then en (.istore_n 3) 0 0 0 0 else none) else
(bif Nat.blt pc 5 then
(bif Nat.beq pc 4 then en (.iload_n 2) 0 0 0 0 else none) else
(bif Nat.beq pc 5 then en (.iload_n 1) 0 0 0 0 else none)))) else
(bif Nat.blt pc 13 then
(bif Nat.blt pc 9 then
(bif Nat.beq pc 6 then en (.if_icmp .ge 44) 50 0 0 0 else none) else
(bif Nat.blt pc 10 then
(bif Nat.beq pc 9 then en (.aload_n 0) 0 0 0 0 else none) else
(bif Nat.beq pc 10 then en (.invokevirtual 89) 79 0 1387 3004 else none))) else
(bif Nat.blt pc 17 then
(bif Nat.blt pc 16 then
(bif Nat.beq pc 13 then en (.ifCond .eq 37) 50 0 0 0 else none) else
(bif Nat.beq pc 16 then en (.iload_n 3) 0 0 0 0 else none)) else
(bif Nat.blt pc 19 then
(bif Nat.beq pc 17 then en (.bipush 10) 0 0 0 0 else none) else
(bif Nat.beq pc 19 then en (.imul) 0 0 0 0 else none))))) else
(bif Nat.blt pc 31 then
(bif Nat.blt pc 25 then
(bif Nat.blt pc 21 then
(bif Nat.beq pc 20 then en (.aload_n 0) 0 0 0 0 else none) else
(bif Nat.blt pc 24 then
(bif Nat.beq pc 21 then en (.getfield 9) 4 0 274 0 else none) else
(bif Nat.beq pc 24 then en (.aload_n 0) 0 0 0 0 else none))) else
(bif Nat.blt pc 28 then
(bif Nat.beq pc 25 then en (.getfield 36) 4 2 276 0 else none) else
(bif Nat.blt pc 29 then
(bif Nat.beq pc 28 then en (.caload) 0 0 0 0 else none) else
(bif Nat.beq pc 29 then en (.bipush 48) 0 0 0 0 else none)))) else
(bif Nat.blt pc 34 then
(bif Nat.blt pc 32 then
(bif Nat.beq pc 31 then en (.isub) 0 0 0 0 else none) else
(bif Nat.blt pc 33 then
(bif Nat.beq pc 32 then en (.iadd) 0 0 0 0 else none) else
(bif Nat.beq pc 33 then en (.istore_n 3) 0 0 0 0 else none))) else
(bif Nat.blt pc 36 then
(bif Nat.blt pc 35 then
(bif Nat.beq pc 34 then en (.aload_n 0) 0 0 0 0 else none) else
(bif Nat.beq pc 35 then en (.dup) 0 0 0 0 else none)) else
(bif Nat.blt pc 39 then
(bif Nat.beq pc 36 then en (.getfield 36) 4 2 276 0 else none) else
(bif Nat.beq pc 39 then en (.iconst 1) 0 0 0 0 else none)))))) else
(bif Nat.blt pc 65 then
(bif Nat.blt pc 54 then
(bif Nat.blt pc 47 then
(bif Nat.blt pc 41 then
(bif Nat.beq pc 40 then en (.iadd) 0 0 0 0 else none) else
(bif Nat.blt pc 44 then
(bif Nat.beq pc 41 then en (.putfield 36) 4 2 276 0 else none) else
(bif Nat.beq pc 44 then en (.iinc 2 1) 0 0 0 0 else none))) else
(bif Nat.blt pc 50 then
(bif Nat.beq pc 47 then en (.goto (-43)) 4 0 0 0 else none) else
(bif Nat.blt pc 51 then
(bif Nat.beq pc 50 then en (.iload_n 2) 0 0 0 0 else none) else
(bif Nat.beq pc 51 then en (.ifCond .eq 11) 62 0 0 0 else none)))) else
(bif Nat.blt pc 59 then
(bif Nat.blt pc 55 then
(bif Nat.beq pc 54 then en (.aload_n 0) 0 0 0 0 else none) else
(bif Nat.blt pc 58 then
(bif Nat.beq pc 55 then en (.getfield 70) 4 6 283 0 else none) else
(bif Nat.beq pc 58 then en (.iconst 3) 0 0 0 0 else none))) else
(bif Nat.blt pc 63 then
(bif Nat.blt pc 62 then
(bif Nat.beq pc 59 then en (.if_icmp .lt 5) 64 0 0 0 else none) else
(bif Nat.beq pc 62 then en (.iconst 0) 0 0 0 0 else none)) else
(bif Nat.blt pc 64 then
(bif Nat.beq pc 63 then en (.ireturn) 0 0 0 0 else none) else
(bif Nat.beq pc 64 then en (.aload_n 0) 0 0 0 0 else none))))) else
(bif Nat.blt pc 75 then
(bif Nat.blt pc 72 then
(bif Nat.blt pc 68 then
(bif Nat.beq pc 65 then en (.getfield 24) 4 5 281 0 else none) else
(bif Nat.blt pc 69 then
(bif Nat.beq pc 68 then en (.aload_n 0) 0 0 0 0 else none) else
(bif Nat.beq pc 69 then en (.getfield 70) 4 6 283 0 else none))) else
(bif Nat.blt pc 73 then
(bif Nat.beq pc 72 then en (.iload_n 3) 0 0 0 0 else none) else
(bif Nat.blt pc 74 then
(bif Nat.beq pc 73 then en (.iastore) 0 0 0 0 else none) else
(bif Nat.beq pc 74 then en (.aload_n 0) 0 0 0 0 else none)))) else
(bif Nat.blt pc 80 then
(bif Nat.blt pc 76 then
(bif Nat.beq pc 75 then en (.dup) 0 0 0 0 else none) else
(bif Nat.blt pc 79 then
(bif Nat.beq pc 76 then en (.getfield 70) 4 6 283 0 else none) else
(bif Nat.beq pc 79 then en (.iconst 1) 0 0 0 0 else none))) else
(bif Nat.blt pc 84 then
(bif Nat.blt pc 81 then
(bif Nat.beq pc 80 then en (.iadd) 0 0 0 0 else none) else
(bif Nat.beq pc 81 then en (.putfield 70) 4 6 283 0 else none)) else
(bif Nat.blt pc 85 then
(bif Nat.beq pc 84 then en (.iconst 1) 0 0 0 0 else none) else
(bif Nat.beq pc 85 then en (.ireturn) 0 0 0 0 else none))))))) else none
/-- SingleTrackLine$Program.isAtDigit()Z -/
def mc79 (pc : Nat) : Option En := bif Nat.blt pc 45 then (bif Nat.blt pc 22 then
(bif Nat.blt pc 11 then
(bif Nat.blt pc 4 then
(bif Nat.blt pc 1 then
(bif Nat.beq pc 0 then en (.aload_n 0) 0 0 0 0 else none) else
(bif Nat.beq pc 1 then en (.getfield 36) 4 2 276 0 else none)) else
(bif Nat.blt pc 5 then
(bif Nat.beq pc 4 then en (.aload_n 0) 0 0 0 0 else none) else
(bif Nat.blt pc 8 then
(bif Nat.beq pc 5 then en (.getfield 28) 4 1 275 0 else none) else
(bif Nat.beq pc 8 then en (.if_icmp .ge 35) 43 0 0 0 else none)))) else
(bif Nat.blt pc 16 then
(bif Nat.blt pc 12 then
(bif Nat.beq pc 11 then en (.aload_n 0) 0 0 0 0 else none) else
(bif Nat.blt pc 15 then
(bif Nat.beq pc 12 then en (.getfield 9) 4 0 274 0 else none) else
(bif Nat.beq pc 15 then en (.aload_n 0) 0 0 0 0 else none))) else
(bif Nat.blt pc 19 then
(bif Nat.beq pc 16 then en (.getfield 36) 4 2 276 0 else none) else
(bif Nat.blt pc 20 then
(bif Nat.beq pc 19 then en (.caload) 0 0 0 0 else none) else
(bif Nat.beq pc 20 then en (.bipush 48) 0 0 0 0 else none))))) else
(bif Nat.blt pc 34 then
(bif Nat.blt pc 29 then
(bif Nat.blt pc 25 then
(bif Nat.beq pc 22 then en (.if_icmp .lt 21) 43 0 0 0 else none) else
(bif Nat.blt pc 26 then
(bif Nat.beq pc 25 then en (.aload_n 0) 0 0 0 0 else none) else
(bif Nat.beq pc 26 then en (.getfield 9) 4 0 274 0 else none))) else
(bif Nat.blt pc 30 then
(bif Nat.beq pc 29 then en (.aload_n 0) 0 0 0 0 else none) else
(bif Nat.blt pc 33 then
(bif Nat.beq pc 30 then en (.getfield 36) 4 2 276 0 else none) else
(bif Nat.beq pc 33 then en (.caload) 0 0 0 0 else none)))) else
(bif Nat.blt pc 40 then
(bif Nat.blt pc 36 then
(bif Nat.beq pc 34 then en (.bipush 57) 0 0 0 0 else none) else
(bif Nat.blt pc 39 then
(bif Nat.beq pc 36 then en (.if_icmp .gt 7) 43 0 0 0 else none) else
(bif Nat.beq pc 39 then en (.iconst 1) 0 0 0 0 else none))) else
(bif Nat.blt pc 43 then
(bif Nat.beq pc 40 then en (.goto 4) 44 0 0 0 else none) else
(bif Nat.blt pc 44 then
(bif Nat.beq pc 43 then en (.iconst 0) 0 0 0 0 else none) else
(bif Nat.beq pc 44 then en (.ireturn) 0 0 0 0 else none)))))) else none
/-- SingleTrackLine$Program.take(C)Z -/
def mc80 (pc : Nat) : Option En := bif Nat.blt pc 38 then (bif Nat.blt pc 21 then
(bif Nat.blt pc 11 then
(bif Nat.blt pc 4 then
(bif Nat.blt pc 1 then
(bif Nat.beq pc 0 then en (.aload_n 0) 0 0 0 0 else none) else
(bif Nat.beq pc 1 then en (.getfield 36) 4 2 276 0 else none)) else
(bif Nat.blt pc 5 then
(bif Nat.beq pc 4 then en (.aload_n 0) 0 0 0 0 else none) else
(bif Nat.blt pc 8 then
(bif Nat.beq pc 5 then en (.getfield 28) 4 1 275 0 else none) else
(bif Nat.beq pc 8 then en (.if_icmp .ge 16) 24 0 0 0 else none)))) else
(bif Nat.blt pc 16 then
(bif Nat.blt pc 12 then
(bif Nat.beq pc 11 then en (.aload_n 0) 0 0 0 0 else none) else
(bif Nat.blt pc 15 then
(bif Nat.beq pc 12 then en (.getfield 9) 4 0 274 0 else none) else
(bif Nat.beq pc 15 then en (.aload_n 0) 0 0 0 0 else none))) else
(bif Nat.blt pc 19 then
(bif Nat.beq pc 16 then en (.getfield 36) 4 2 276 0 else none) else
(bif Nat.blt pc 20 then
(bif Nat.beq pc 19 then en (.caload) 0 0 0 0 else none) else
(bif Nat.beq pc 20 then en (.iload_n 1) 0 0 0 0 else none))))) else
(bif Nat.blt pc 28 then
(bif Nat.blt pc 25 then
(bif Nat.blt pc 24 then
(bif Nat.beq pc 21 then en (.if_icmp .eq 5) 26 0 0 0 else none) else
(bif Nat.beq pc 24 then en (.iconst 0) 0 0 0 0 else none)) else
(bif Nat.blt pc 26 then
(bif Nat.beq pc 25 then en (.ireturn) 0 0 0 0 else none) else
(bif Nat.blt pc 27 then
(bif Nat.beq pc 26 then en (.aload_n 0) 0 0 0 0 else none) else
(bif Nat.beq pc 27 then en (.dup) 0 0 0 0 else none)))) else
(bif Nat.blt pc 33 then
(bif Nat.blt pc 31 then
(bif Nat.beq pc 28 then en (.getfield 36) 4 2 276 0 else none) else
(bif Nat.blt pc 32 then
(bif Nat.beq pc 31 then en (.iconst 1) 0 0 0 0 else none) else
(bif Nat.beq pc 32 then en (.iadd) 0 0 0 0 else none))) else
(bif Nat.blt pc 36 then
(bif Nat.beq pc 33 then en (.putfield 36) 4 2 276 0 else none) else
(bif Nat.blt pc 37 then
(bif Nat.beq pc 36 then en (.iconst 1) 0 0 0 0 else none) else
(bif Nat.beq pc 37 then en (.ireturn) 0 0 0 0 else none)))))) else none
/-- SingleTrackLine$Train.<init>()V -/
def mc81 (pc : Nat) : Option En := bif Nat.blt pc 12 then (bif Nat.blt pc 5 then
(bif Nat.blt pc 1 then
(bif Nat.beq pc 0 then en (.aload_n 0) 0 0 0 0 else none) else
(bif Nat.blt pc 4 then
(bif Nat.beq pc 1 then en (.invokespecial 1) 0 7 131 0 else none) else
(bif Nat.beq pc 4 then en (.aload_n 0) 0 0 0 0 else none))) else
(bif Nat.blt pc 8 then
(bif Nat.beq pc 5 then en (.getstatic 7) 0 0 132 0 else none) else
(bif Nat.blt pc 11 then
(bif Nat.beq pc 8 then en (.putfield 13) 2 0 134 0 else none) else
(bif Nat.beq pc 11 then en (.return_) 0 0 0 0 else none)))) else none
/-- SingleTrackLine$Train.isPresent()Z -/
def mc82 (pc : Nat) : Option En := bif Nat.blt pc 16 then (bif Nat.blt pc 10 then
(bif Nat.blt pc 4 then
(bif Nat.blt pc 1 then
(bif Nat.beq pc 0 then en (.aload_n 0) 0 0 0 0 else none) else
(bif Nat.beq pc 1 then en (.getfield 13) 2 0 134 0 else none)) else
(bif Nat.blt pc 7 then
(bif Nat.beq pc 4 then en (.getstatic 7) 0 0 132 0 else none) else
(bif Nat.beq pc 7 then en (.if_acmp .eq 7) 14 0 0 0 else none))) else
(bif Nat.blt pc 14 then
(bif Nat.blt pc 11 then
(bif Nat.beq pc 10 then en (.iconst 1) 0 0 0 0 else none) else
(bif Nat.beq pc 11 then en (.goto 4) 15 0 0 0 else none)) else
(bif Nat.blt pc 15 then
(bif Nat.beq pc 14 then en (.iconst 0) 0 0 0 0 else none) else
(bif Nat.beq pc 15 then en (.ireturn) 0 0 0 0 else none)))) else none
/-- SingleTrackLine$Train.isAt(I)Z -/
def mc83 (pc : Nat) : Option En := bif Nat.blt pc 24 then (bif Nat.blt pc 14 then
(bif Nat.blt pc 7 then
(bif Nat.blt pc 1 then
(bif Nat.beq pc 0 then en (.aload_n 0) 0 0 0 0 else none) else
(bif Nat.blt pc 4 then
(bif Nat.beq pc 1 then en (.getfield 13) 2 0 134 0 else none) else
(bif Nat.beq pc 4 then en (.getstatic 18) 2 0 422 0 else none))) else
(bif Nat.blt pc 10 then
(bif Nat.beq pc 7 then en (.if_acmp .ne 15) 22 0 0 0 else none) else
(bif Nat.blt pc 11 then
(bif Nat.beq pc 10 then en (.aload_n 0) 0 0 0 0 else none) else
(bif Nat.beq pc 11 then en (.getfield 21) 2 6 152 0 else none)))) else
(bif Nat.blt pc 19 then
(bif Nat.blt pc 15 then
(bif Nat.beq pc 14 then en (.iload_n 1) 0 0 0 0 else none) else
(bif Nat.blt pc 18 then
(bif Nat.beq pc 15 then en (.if_icmp .ne 7) 22 0 0 0 else none) else
(bif Nat.beq pc 18 then en (.iconst 1) 0 0 0 0 else none))) else
(bif Nat.blt pc 22 then
(bif Nat.beq pc 19 then en (.goto 4) 23 0 0 0 else none) else
(bif Nat.blt pc 23 then
(bif Nat.beq pc 22 then en (.iconst 0) 0 0 0 0 else none) else
(bif Nat.beq pc 23 then en (.ireturn) 0 0 0 0 else none))))) else none
/-- SingleTrackLine$Train.step()I -/
def mc84 (pc : Nat) : Option En := bif Nat.blt pc 17 then (bif Nat.blt pc 8 then
(bif Nat.blt pc 4 then
(bif Nat.blt pc 1 then
(bif Nat.beq pc 0 then en (.aload_n 0) 0 0 0 0 else none) else
(bif Nat.beq pc 1 then en (.getfield 25) 2 3 143 0 else none)) else
(bif Nat.blt pc 5 then
(bif Nat.beq pc 4 then en (.aload_n 0) 0 0 0 0 else none) else
(bif Nat.beq pc 5 then en (.getfield 28) 2 2 140 0 else none))) else
(bif Nat.blt pc 12 then
(bif Nat.blt pc 11 then
(bif Nat.beq pc 8 then en (.if_icmp .le 7) 15 0 0 0 else none) else
(bif Nat.beq pc 11 then en (.iconst 1) 0 0 0 0 else none)) else
(bif Nat.blt pc 15 then
(bif Nat.beq pc 12 then en (.goto 4) 16 0 0 0 else none) else
(bif Nat.blt pc 16 then
(bif Nat.beq pc 15 then en (.iconst (-1)) 0 0 0 0 else none) else
(bif Nat.beq pc 16 then en (.ireturn) 0 0 0 0 else none))))) else none
/-- SingleTrackLine$Train.stopAt(II)V -/
def mc85 (pc : Nat) : Option En := bif Nat.blt pc 18 then (bif Nat.blt pc 9 then
(bif Nat.blt pc 4 then
(bif Nat.blt pc 1 then
(bif Nat.beq pc 0 then en (.aload_n 0) 0 0 0 0 else none) else
(bif Nat.beq pc 1 then en (.getstatic 18) 2 0 422 0 else none)) else
(bif Nat.blt pc 7 then
(bif Nat.beq pc 4 then en (.putfield 13) 2 0 134 0 else none) else
(bif Nat.blt pc 8 then
(bif Nat.beq pc 7 then en (.aload_n 0) 0 0 0 0 else none) else
(bif Nat.beq pc 8 then en (.iload_n 1) 0 0 0 0 else none)))) else
(bif Nat.blt pc 13 then
(bif Nat.blt pc 12 then
(bif Nat.beq pc 9 then en (.putfield 21) 2 6 152 0 else none) else
(bif Nat.beq pc 12 then en (.aload_n 0) 0 0 0 0 else none)) else
(bif Nat.blt pc 14 then
(bif Nat.beq pc 13 then en (.iload_n 2) 0 0 0 0 else none) else
(bif Nat.blt pc 17 then
(bif Nat.beq pc 14 then en (.putfield 31) 2 11 167 0 else none) else
(bif Nat.beq pc 17 then en (.return_) 0 0 0 0 else none))))) else none
/-- SingleTrackLine$Train.enterSection(III)V -/
def mc86 (pc : Nat) : Option En := bif Nat.blt pc 23 then (bif Nat.blt pc 12 then
(bif Nat.blt pc 7 then
(bif Nat.blt pc 1 then
(bif Nat.beq pc 0 then en (.aload_n 0) 0 0 0 0 else none) else
(bif Nat.blt pc 4 then
(bif Nat.beq pc 1 then en (.getstatic 34) 3 0 474 0 else none) else
(bif Nat.beq pc 4 then en (.putfield 13) 2 0 134 0 else none))) else
(bif Nat.blt pc 8 then
(bif Nat.beq pc 7 then en (.aload_n 0) 0 0 0 0 else none) else
(bif Nat.blt pc 9 then
(bif Nat.beq pc 8 then en (.iload_n 1) 0 0 0 0 else none) else
(bif Nat.beq pc 9 then en (.putfield 37) 2 7 155 0 else none)))) else
(bif Nat.blt pc 17 then
(bif Nat.blt pc 13 then
(bif Nat.beq pc 12 then en (.aload_n 0) 0 0 0 0 else none) else
(bif Nat.blt pc 14 then
(bif Nat.beq pc 13 then en (.iload_n 2) 0 0 0 0 else none) else
(bif Nat.beq pc 14 then en (.putfield 21) 2 6 152 0 else none))) else
(bif Nat.blt pc 19 then
(bif Nat.blt pc 18 then
(bif Nat.beq pc 17 then en (.aload_n 0) 0 0 0 0 else none) else
(bif Nat.beq pc 18 then en (.iload_n 3) 0 0 0 0 else none)) else
(bif Nat.blt pc 22 then
(bif Nat.beq pc 19 then en (.putfield 40) 2 8 158 0 else none) else
(bif Nat.beq pc 22 then en (.return_) 0 0 0 0 else none))))) else none
/-- SingleTrackLine$Train.leavesBefore(LSingleTrackLine$Train;)Z -/
def mc87 (pc : Nat) : Option En := bif Nat.blt pc 45 then (bif Nat.blt pc 23 then
(bif Nat.blt pc 11 then
(bif Nat.blt pc 4 then
(bif Nat.blt pc 1 then
(bif Nat.beq pc 0 then en (.aload_n 0) 0 0 0 0 else none) else
(bif Nat.beq pc 1 then en (.getfield 43) 2 4 147 0 else none)) else
(bif Nat.blt pc 5 then
(bif Nat.beq pc 4 then en (.aload_n 1) 0 0 0 0 else none) else
(bif Nat.blt pc 8 then
(bif Nat.beq pc 5 then en (.getfield 43) 2 4 147 0 else none) else
(bif Nat.beq pc 8 then en (.if_icmp .eq 20) 28 0 0 0 else none)))) else
(bif Nat.blt pc 16 then
(bif Nat.blt pc 12 then
(bif Nat.beq pc 11 then en (.aload_n 0) 0 0 0 0 else none) else
(bif Nat.blt pc 15 then
(bif Nat.beq pc 12 then en (.getfield 43) 2 4 147 0 else none) else
(bif Nat.beq pc 15 then en (.aload_n 1) 0 0 0 0 else none))) else
(bif Nat.blt pc 19 then
(bif Nat.beq pc 16 then en (.getfield 43) 2 4 147 0 else none) else
(bif Nat.blt pc 22 then
(bif Nat.beq pc 19 then en (.if_icmp .ge 7) 26 0 0 0 else none) else
(bif Nat.beq pc 22 then en (.iconst 1) 0 0 0 0 else none))))) else
(bif Nat.blt pc 33 then
(bif Nat.blt pc 28 then
(bif Nat.blt pc 26 then
(bif Nat.beq pc 23 then en (.goto 4) 27 0 0 0 else none) else
(bif Nat.blt pc 27 then
(bif Nat.beq pc 26 then en (.iconst 0) 0 0 0 0 else none) else
(bif Nat.beq pc 27 then en (.ireturn) 0 0 0 0 else none))) else
(bif Nat.blt pc 29 then
(bif Nat.beq pc 28 then en (.aload_n 0) 0 0 0 0 else none) else
(bif Nat.blt pc 32 then
(bif Nat.beq pc 29 then en (.getfield 46) 2 1 138 0 else none) else
(bif Nat.beq pc 32 then en (.aload_n 1) 0 0 0 0 else none)))) else
(bif Nat.blt pc 40 then
(bif Nat.blt pc 36 then
(bif Nat.beq pc 33 then en (.getfield 46) 2 1 138 0 else none) else
(bif Nat.blt pc 39 then
(bif Nat.beq pc 36 then en (.if_icmp .ge 7) 43 0 0 0 else none) else
(bif Nat.beq pc 39 then en (.iconst 1) 0 0 0 0 else none))) else
(bif Nat.blt pc 43 then
(bif Nat.beq pc 40 then en (.goto 4) 44 0 0 0 else none) else
(bif Nat.blt pc 44 then
(bif Nat.beq pc 43 then en (.iconst 0) 0 0 0 0 else none) else
(bif Nat.beq pc 44 then en (.ireturn) 0 0 0 0 else none)))))) else none
/-- SingleTrackLine$Train.ranksBefore(LSingleTrackLine$Train;)Z -/
def mc88 (pc : Nat) : Option En := bif Nat.blt pc 73 then (bif Nat.blt pc 36 then
(bif Nat.blt pc 19 then
(bif Nat.blt pc 8 then
(bif Nat.blt pc 4 then
(bif Nat.blt pc 1 then
(bif Nat.beq pc 0 then en (.aload_n 0) 0 0 0 0 else none) else
(bif Nat.beq pc 1 then en (.getfield 49) 2 10 165 0 else none)) else
(bif Nat.blt pc 5 then
(bif Nat.beq pc 4 then en (.aload_n 1) 0 0 0 0 else none) else
(bif Nat.beq pc 5 then en (.getfield 49) 2 10 165 0 else none))) else
(bif Nat.blt pc 12 then
(bif Nat.blt pc 11 then
(bif Nat.beq pc 8 then en (.if_icmp .eq 20) 28 0 0 0 else none) else
(bif Nat.beq pc 11 then en (.aload_n 0) 0 0 0 0 else none)) else
(bif Nat.blt pc 15 then
(bif Nat.beq pc 12 then en (.getfield 49) 2 10 165 0 else none) else
(bif Nat.blt pc 16 then
(bif Nat.beq pc 15 then en (.aload_n 1) 0 0 0 0 else none) else
(bif Nat.beq pc 16 then en (.getfield 49) 2 10 165 0 else none))))) else
(bif Nat.blt pc 27 then
(bif Nat.blt pc 23 then
(bif Nat.blt pc 22 then
(bif Nat.beq pc 19 then en (.if_icmp .le 7) 26 0 0 0 else none) else
(bif Nat.beq pc 22 then en (.iconst 1) 0 0 0 0 else none)) else
(bif Nat.blt pc 26 then
(bif Nat.beq pc 23 then en (.goto 4) 27 0 0 0 else none) else
(bif Nat.beq pc 26 then en (.iconst 0) 0 0 0 0 else none))) else
(bif Nat.blt pc 29 then
(bif Nat.blt pc 28 then
(bif Nat.beq pc 27 then en (.ireturn) 0 0 0 0 else none) else
(bif Nat.beq pc 28 then en (.aload_n 0) 0 0 0 0 else none)) else
(bif Nat.blt pc 32 then
(bif Nat.beq pc 29 then en (.getfield 52) 2 5 150 0 else none) else
(bif Nat.blt pc 33 then
(bif Nat.beq pc 32 then en (.aload_n 1) 0 0 0 0 else none) else
(bif Nat.beq pc 33 then en (.getfield 52) 2 5 150 0 else none)))))) else
(bif Nat.blt pc 55 then
(bif Nat.blt pc 44 then
(bif Nat.blt pc 40 then
(bif Nat.blt pc 39 then
(bif Nat.beq pc 36 then en (.if_icmp .eq 20) 56 0 0 0 else none) else
(bif Nat.beq pc 39 then en (.aload_n 0) 0 0 0 0 else none)) else
(bif Nat.blt pc 43 then
(bif Nat.beq pc 40 then en (.getfield 52) 2 5 150 0 else none) else
(bif Nat.beq pc 43 then en (.aload_n 1) 0 0 0 0 else none))) else
(bif Nat.blt pc 50 then
(bif Nat.blt pc 47 then
(bif Nat.beq pc 44 then en (.getfield 52) 2 5 150 0 else none) else
(bif Nat.beq pc 47 then en (.if_icmp .ge 7) 54 0 0 0 else none)) else
(bif Nat.blt pc 51 then
(bif Nat.beq pc 50 then en (.iconst 1) 0 0 0 0 else none) else
(bif Nat.blt pc 54 then
(bif Nat.beq pc 51 then en (.goto 4) 55 0 0 0 else none) else
(bif Nat.beq pc 54 then en (.iconst 0) 0 0 0 0 else none))))) else
(bif Nat.blt pc 64 then
(bif Nat.blt pc 57 then
(bif Nat.blt pc 56 then
(bif Nat.beq pc 55 then en (.ireturn) 0 0 0 0 else none) else
(bif Nat.beq pc 56 then en (.aload_n 0) 0 0 0 0 else none)) else
(bif Nat.blt pc 60 then
(bif Nat.beq pc 57 then en (.getfield 46) 2 1 138 0 else none) else
(bif Nat.blt pc 61 then
(bif Nat.beq pc 60 then en (.aload_n 1) 0 0 0 0 else none) else
(bif Nat.beq pc 61 then en (.getfield 46) 2 1 138 0 else none)))) else
(bif Nat.blt pc 68 then
(bif Nat.blt pc 67 then
(bif Nat.beq pc 64 then en (.if_icmp .ge 7) 71 0 0 0 else none) else
(bif Nat.beq pc 67 then en (.iconst 1) 0 0 0 0 else none)) else
(bif Nat.blt pc 71 then
(bif Nat.beq pc 68 then en (.goto 4) 72 0 0 0 else none) else
(bif Nat.blt pc 72 then
(bif Nat.beq pc 71 then en (.iconst 0) 0 0 0 0 else none) else
(bif Nat.beq pc 72 then en (.ireturn) 0 0 0 0 else none))))))) else none
/-- SingleTrackLine$Train.copyFrom(LSingleTrackLine$Train;)V -/
def mc89 (pc : Nat) : Option En := bif Nat.blt pc 97 then (bif Nat.blt pc 48 then
(bif Nat.blt pc 24 then
(bif Nat.blt pc 10 then
(bif Nat.blt pc 5 then
(bif Nat.blt pc 1 then
(bif Nat.beq pc 0 then en (.aload_n 0) 0 0 0 0 else none) else
(bif Nat.blt pc 2 then
(bif Nat.beq pc 1 then en (.aload_n 1) 0 0 0 0 else none) else
(bif Nat.beq pc 2 then en (.getfield 13) 2 0 134 0 else none))) else
(bif Nat.blt pc 8 then
(bif Nat.beq pc 5 then en (.putfield 13) 2 0 134 0 else none) else
(bif Nat.blt pc 9 then
(bif Nat.beq pc 8 then en (.aload_n 0) 0 0 0 0 else none) else
(bif Nat.beq pc 9 then en (.aload_n 1) 0 0 0 0 else none)))) else
(bif Nat.blt pc 17 then
(bif Nat.blt pc 13 then
(bif Nat.beq pc 10 then en (.getfield 46) 2 1 138 0 else none) else
(bif Nat.blt pc 16 then
(bif Nat.beq pc 13 then en (.putfield 46) 2 1 138 0 else none) else
(bif Nat.beq pc 16 then en (.aload_n 0) 0 0 0 0 else none))) else
(bif Nat.blt pc 18 then
(bif Nat.beq pc 17 then en (.aload_n 1) 0 0 0 0 else none) else
(bif Nat.blt pc 21 then
(bif Nat.beq pc 18 then en (.getfield 28) 2 2 140 0 else none) else
(bif Nat.beq pc 21 then en (.putfield 28) 2 2 140 0 else none))))) else
(bif Nat.blt pc 34 then
(bif Nat.blt pc 29 then
(bif Nat.blt pc 25 then
(bif Nat.beq pc 24 then en (.aload_n 0) 0 0 0 0 else none) else
(bif Nat.blt pc 26 then
(bif Nat.beq pc 25 then en (.aload_n 1) 0 0 0 0 else none) else
(bif Nat.beq pc 26 then en (.getfield 25) 2 3 143 0 else none))) else
(bif Nat.blt pc 32 then
(bif Nat.beq pc 29 then en (.putfield 25) 2 3 143 0 else none) else
(bif Nat.blt pc 33 then
(bif Nat.beq pc 32 then en (.aload_n 0) 0 0 0 0 else none) else
(bif Nat.beq pc 33 then en (.aload_n 1) 0 0 0 0 else none)))) else
(bif Nat.blt pc 41 then
(bif Nat.blt pc 37 then
(bif Nat.beq pc 34 then en (.getfield 43) 2 4 147 0 else none) else
(bif Nat.blt pc 40 then
(bif Nat.beq pc 37 then en (.putfield 43) 2 4 147 0 else none) else
(bif Nat.beq pc 40 then en (.aload_n 0) 0 0 0 0 else none))) else
(bif Nat.blt pc 42 then
(bif Nat.beq pc 41 then en (.aload_n 1) 0 0 0 0 else none) else
(bif Nat.blt pc 45 then
(bif Nat.beq pc 42 then en (.getfield 52) 2 5 150 0 else none) else
(bif Nat.beq pc 45 then en (.putfield 52) 2 5 150 0 else none)))))) else
(bif Nat.blt pc 72 then
(bif Nat.blt pc 58 then
(bif Nat.blt pc 53 then
(bif Nat.blt pc 49 then
(bif Nat.beq pc 48 then en (.aload_n 0) 0 0 0 0 else none) else
(bif Nat.blt pc 50 then
(bif Nat.beq pc 49 then en (.aload_n 1) 0 0 0 0 else none) else
(bif Nat.beq pc 50 then en (.getfield 21) 2 6 152 0 else none))) else
(bif Nat.blt pc 56 then
(bif Nat.beq pc 53 then en (.putfield 21) 2 6 152 0 else none) else
(bif Nat.blt pc 57 then
(bif Nat.beq pc 56 then en (.aload_n 0) 0 0 0 0 else none) else
(bif Nat.beq pc 57 then en (.aload_n 1) 0 0 0 0 else none)))) else
(bif Nat.blt pc 65 then
(bif Nat.blt pc 61 then
(bif Nat.beq pc 58 then en (.getfield 37) 2 7 155 0 else none) else
(bif Nat.blt pc 64 then
(bif Nat.beq pc 61 then en (.putfield 37) 2 7 155 0 else none) else
(bif Nat.beq pc 64 then en (.aload_n 0) 0 0 0 0 else none))) else
(bif Nat.blt pc 66 then
(bif Nat.beq pc 65 then en (.aload_n 1) 0 0 0 0 else none) else
(bif Nat.blt pc 69 then
(bif Nat.beq pc 66 then en (.getfield 40) 2 8 158 0 else none) else
(bif Nat.beq pc 69 then en (.putfield 40) 2 8 158 0 else none))))) else
(bif Nat.blt pc 82 then
(bif Nat.blt pc 77 then
(bif Nat.blt pc 73 then
(bif Nat.beq pc 72 then en (.aload_n 0) 0 0 0 0 else none) else
(bif Nat.blt pc 74 then
(bif Nat.beq pc 73 then en (.aload_n 1) 0 0 0 0 else none) else
(bif Nat.beq pc 74 then en (.getfield 55) 2 9 162 0 else none))) else
(bif Nat.blt pc 80 then
(bif Nat.beq pc 77 then en (.putfield 55) 2 9 162 0 else none) else
(bif Nat.blt pc 81 then
(bif Nat.beq pc 80 then en (.aload_n 0) 0 0 0 0 else none) else
(bif Nat.beq pc 81 then en (.aload_n 1) 0 0 0 0 else none)))) else
(bif Nat.blt pc 89 then
(bif Nat.blt pc 85 then
(bif Nat.beq pc 82 then en (.getfield 49) 2 10 165 0 else none) else
(bif Nat.blt pc 88 then
(bif Nat.beq pc 85 then en (.putfield 49) 2 10 165 0 else none) else
(bif Nat.beq pc 88 then en (.aload_n 0) 0 0 0 0 else none))) else
(bif Nat.blt pc 93 then
(bif Nat.blt pc 90 then
(bif Nat.beq pc 89 then en (.aload_n 1) 0 0 0 0 else none) else
(bif Nat.beq pc 90 then en (.getfield 31) 2 11 167 0 else none)) else
(bif Nat.blt pc 96 then
(bif Nat.beq pc 93 then en (.putfield 31) 2 11 167 0 else none) else
(bif Nat.beq pc 96 then en (.return_) 0 0 0 0 else none))))))) else none
/-- SingleTrackLine.<init>()V -/
def mc90 (pc : Nat) : Option En := bif Nat.blt pc 81 then (bif Nat.blt pc 41 then
(bif Nat.blt pc 19 then
(bif Nat.blt pc 8 then
(bif Nat.blt pc 4 then
(bif Nat.blt pc 1 then
(bif Nat.beq pc 0 then en (.aload_n 0) 0 0 0 0 else none) else
(bif Nat.beq pc 1 then en (.invokespecial 3) 0 7 116 0 else none)) else
(bif Nat.blt pc 5 then
(bif Nat.beq pc 4 then en (.aload_n 0) 0 0 0 0 else none) else
(bif Nat.beq pc 5 then en (.new 9) 1 0 119 0 else none))) else
(bif Nat.blt pc 12 then
(bif Nat.blt pc 9 then
(bif Nat.beq pc 8 then en (.dup) 0 0 0 0 else none) else
(bif Nat.beq pc 9 then en (.invokespecial 11) 34 2 121 0 else none)) else
(bif Nat.blt pc 15 then
(bif Nat.beq pc 12 then en (.putfield 12) 0 0 333 0 else none) else
(bif Nat.blt pc 16 then
(bif Nat.beq pc 15 then en (.aload_n 0) 0 0 0 0 else none) else
(bif Nat.beq pc 16 then en (.new 9) 1 0 119 0 else none))))) else
(bif Nat.blt pc 30 then
(bif Nat.blt pc 23 then
(bif Nat.blt pc 20 then
(bif Nat.beq pc 19 then en (.dup) 0 0 0 0 else none) else
(bif Nat.beq pc 20 then en (.invokespecial 11) 34 2 121 0 else none)) else
(bif Nat.blt pc 26 then
(bif Nat.beq pc 23 then en (.putfield 16) 0 1 334 0 else none) else
(bif Nat.blt pc 27 then
(bif Nat.beq pc 26 then en (.aload_n 0) 0 0 0 0 else none) else
(bif Nat.beq pc 27 then en (.new 9) 1 0 119 0 else none)))) else
(bif Nat.blt pc 34 then
(bif Nat.blt pc 31 then
(bif Nat.beq pc 30 then en (.dup) 0 0 0 0 else none) else
(bif Nat.beq pc 31 then en (.invokespecial 11) 34 2 121 0 else none)) else
(bif Nat.blt pc 37 then
(bif Nat.beq pc 34 then en (.putfield 19) 0 2 335 0 else none) else
(bif Nat.blt pc 38 then
(bif Nat.beq pc 37 then en (.aload_n 0) 0 0 0 0 else none) else
(bif Nat.beq pc 38 then en (.new 22) 3 0 246 0 else none)))))) else
(bif Nat.blt pc 63 then
(bif Nat.blt pc 52 then
(bif Nat.blt pc 45 then
(bif Nat.blt pc 42 then
(bif Nat.beq pc 41 then en (.dup) 0 0 0 0 else none) else
(bif Nat.beq pc 42 then en (.invokespecial 24) 29 2 248 0 else none)) else
(bif Nat.blt pc 48 then
(bif Nat.beq pc 45 then en (.putfield 25) 0 3 336 0 else none) else
(bif Nat.blt pc 49 then
(bif Nat.beq pc 48 then en (.aload_n 0) 0 0 0 0 else none) else
(bif Nat.beq pc 49 then en (.new 29) 4 0 266 0 else none)))) else
(bif Nat.blt pc 56 then
(bif Nat.blt pc 53 then
(bif Nat.beq pc 52 then en (.dup) 0 0 0 0 else none) else
(bif Nat.beq pc 53 then en (.invokespecial 31) 68 6 268 0 else none)) else
(bif Nat.blt pc 59 then
(bif Nat.beq pc 56 then en (.putfield 32) 0 4 337 0 else none) else
(bif Nat.blt pc 60 then
(bif Nat.beq pc 59 then en (.aload_n 0) 0 0 0 0 else none) else
(bif Nat.beq pc 60 then en (.new 36) 6 0 300 0 else none))))) else
(bif Nat.blt pc 72 then
(bif Nat.blt pc 67 then
(bif Nat.blt pc 64 then
(bif Nat.beq pc 63 then en (.dup) 0 0 0 0 else none) else
(bif Nat.beq pc 64 then en (.invokespecial 38) 18 2 302 0 else none)) else
(bif Nat.blt pc 70 then
(bif Nat.beq pc 67 then en (.putfield 39) 0 5 338 0 else none) else
(bif Nat.blt pc 71 then
(bif Nat.beq pc 70 then en (.aload_n 0) 0 0 0 0 else none) else
(bif Nat.beq pc 71 then en (.iconst (-1)) 0 0 0 0 else none)))) else
(bif Nat.blt pc 76 then
(bif Nat.blt pc 75 then
(bif Nat.beq pc 72 then en (.putfield 43) 0 7 340 0 else none) else
(bif Nat.beq pc 75 then en (.aload_n 0) 0 0 0 0 else none)) else
(bif Nat.blt pc 77 then
(bif Nat.beq pc 76 then en (.iconst (-1)) 0 0 0 0 else none) else
(bif Nat.blt pc 80 then
(bif Nat.beq pc 77 then en (.putfield 47) 0 8 341 0 else none) else
(bif Nat.beq pc 80 then en (.return_) 0 0 0 0 else none))))))) else none
/-- SingleTrackLine.addStation(II)I -/
def mc91 (pc : Nat) : Option En := bif Nat.blt pc 11 then (bif Nat.blt pc 5 then
(bif Nat.blt pc 1 then
(bif Nat.beq pc 0 then en (.aload_n 0) 0 0 0 0 else none) else
(bif Nat.blt pc 4 then
(bif Nat.beq pc 1 then en (.getstatic 50) 4 0 932 0 else none) else
(bif Nat.beq pc 4 then en (.iload_n 1) 0 0 0 0 else none))) else
(bif Nat.blt pc 7 then
(bif Nat.blt pc 6 then
(bif Nat.beq pc 5 then en (.iload_n 2) 0 0 0 0 else none) else
(bif Nat.beq pc 6 then en (.iconst 0) 0 0 0 0 else none)) else
(bif Nat.blt pc 10 then
(bif Nat.beq pc 7 then en (.invokevirtual 56) 98 0 934 1300 else none) else
(bif Nat.beq pc 10 then en (.ireturn) 0 0 0 0 else none)))) else none
/-- SingleTrackLine.setTracks(II)I -/
def mc92 (pc : Nat) : Option En := bif Nat.blt pc 11 then (bif Nat.blt pc 5 then
(bif Nat.blt pc 1 then
(bif Nat.beq pc 0 then en (.aload_n 0) 0 0 0 0 else none) else
(bif Nat.blt pc 4 then
(bif Nat.beq pc 1 then en (.getstatic 60) 5 0 1051 0 else none) else
(bif Nat.beq pc 4 then en (.iload_n 1) 0 0 0 0 else none))) else
(bif Nat.blt pc 7 then
(bif Nat.blt pc 6 then
(bif Nat.beq pc 5 then en (.iload_n 2) 0 0 0 0 else none) else
(bif Nat.beq pc 6 then en (.iconst 0) 0 0 0 0 else none)) else
(bif Nat.blt pc 10 then
(bif Nat.beq pc 7 then en (.invokevirtual 56) 98 0 934 1300 else none) else
(bif Nat.beq pc 10 then en (.ireturn) 0 0 0 0 else none)))) else none
/-- SingleTrackLine.addTrain(III)I -/
def mc93 (pc : Nat) : Option En := bif Nat.blt pc 11 then (bif Nat.blt pc 5 then
(bif Nat.blt pc 1 then
(bif Nat.beq pc 0 then en (.aload_n 0) 0 0 0 0 else none) else
(bif Nat.blt pc 4 then
(bif Nat.beq pc 1 then en (.getstatic 63) 6 0 1060 0 else none) else
(bif Nat.beq pc 4 then en (.iload_n 1) 0 0 0 0 else none))) else
(bif Nat.blt pc 7 then
(bif Nat.blt pc 6 then
(bif Nat.beq pc 5 then en (.iload_n 2) 0 0 0 0 else none) else
(bif Nat.beq pc 6 then en (.iload_n 3) 0 0 0 0 else none)) else
(bif Nat.blt pc 10 then
(bif Nat.beq pc 7 then en (.invokevirtual 56) 98 0 934 1300 else none) else
(bif Nat.beq pc 10 then en (.ireturn) 0 0 0 0 else none)))) else none
/-- SingleTrackLine.hold(I)I -/
def mc94 (pc : Nat) : Option En := bif Nat.blt pc 11 then (bif Nat.blt pc 5 then
(bif Nat.blt pc 1 then
(bif Nat.beq pc 0 then en (.aload_n 0) 0 0 0 0 else none) else
(bif Nat.blt pc 4 then
(bif Nat.beq pc 1 then en (.getstatic 66) 7 0 1070 0 else none) else
(bif Nat.beq pc 4 then en (.iload_n 1) 0 0 0 0 else none))) else
(bif Nat.blt pc 7 then
(bif Nat.blt pc 6 then
(bif Nat.beq pc 5 then en (.iconst 0) 0 0 0 0 else none) else
(bif Nat.beq pc 6 then en (.iconst 0) 0 0 0 0 else none)) else
(bif Nat.blt pc 10 then
(bif Nat.beq pc 7 then en (.invokevirtual 56) 98 0 934 1300 else none) else
(bif Nat.beq pc 10 then en (.ireturn) 0 0 0 0 else none)))) else none
/-- SingleTrackLine.releaseTrain(I)I -/
def mc95 (pc : Nat) : Option En := bif Nat.blt pc 11 then (bif Nat.blt pc 5 then
(bif Nat.blt pc 1 then
(bif Nat.beq pc 0 then en (.aload_n 0) 0 0 0 0 else none) else
(bif Nat.blt pc 4 then
(bif Nat.beq pc 1 then en (.getstatic 69) 8 0 1079 0 else none) else
(bif Nat.beq pc 4 then en (.iload_n 1) 0 0 0 0 else none))) else
(bif Nat.blt pc 7 then
(bif Nat.blt pc 6 then
(bif Nat.beq pc 5 then en (.iconst 0) 0 0 0 0 else none) else
(bif Nat.beq pc 6 then en (.iconst 0) 0 0 0 0 else none)) else
(bif Nat.blt pc 10 then
(bif Nat.beq pc 7 then en (.invokevirtual 56) 98 0 934 1300 else none) else
(bif Nat.beq pc 10 then en (.ireturn) 0 0 0 0 else none)))) else none
/-- SingleTrackLine.cancelTrain(I)I -/
def mc96 (pc : Nat) : Option En := bif Nat.blt pc 11 then (bif Nat.blt pc 5 then
(bif Nat.blt pc 1 then
(bif Nat.beq pc 0 then en (.aload_n 0) 0 0 0 0 else none) else
(bif Nat.blt pc 4 then
(bif Nat.beq pc 1 then en (.getstatic 72) 9 0 1088 0 else none) else
(bif Nat.beq pc 4 then en (.iload_n 1) 0 0 0 0 else none))) else
(bif Nat.blt pc 7 then
(bif Nat.blt pc 6 then
(bif Nat.beq pc 5 then en (.iconst 0) 0 0 0 0 else none) else
(bif Nat.beq pc 6 then en (.iconst 0) 0 0 0 0 else none)) else
(bif Nat.blt pc 10 then
(bif Nat.beq pc 7 then en (.invokevirtual 56) 98 0 934 1300 else none) else
(bif Nat.beq pc 10 then en (.ireturn) 0 0 0 0 else none)))) else none
/-- SingleTrackLine.advance(I)I -/
def mc97 (pc : Nat) : Option En := bif Nat.blt pc 11 then (bif Nat.blt pc 5 then
(bif Nat.blt pc 1 then
(bif Nat.beq pc 0 then en (.aload_n 0) 0 0 0 0 else none) else
(bif Nat.blt pc 4 then
(bif Nat.beq pc 1 then en (.getstatic 75) 10 0 1097 0 else none) else
(bif Nat.beq pc 4 then en (.iload_n 1) 0 0 0 0 else none))) else
(bif Nat.blt pc 7 then
(bif Nat.blt pc 6 then
(bif Nat.beq pc 5 then en (.iconst 0) 0 0 0 0 else none) else
(bif Nat.beq pc 6 then en (.iconst 0) 0 0 0 0 else none)) else
(bif Nat.blt pc 10 then
(bif Nat.beq pc 7 then en (.invokevirtual 56) 98 0 934 1300 else none) else
(bif Nat.beq pc 10 then en (.ireturn) 0 0 0 0 else none)))) else none
/-- SingleTrackLine.change(LSingleTrackLine$Command;III)I -/
def mc98 (pc : Nat) : Option En := bif Nat.blt pc 40 then (bif Nat.blt pc 18 then
(bif Nat.blt pc 11 then
(bif Nat.blt pc 4 then
(bif Nat.blt pc 1 then
(bif Nat.beq pc 0 then en (.aload_n 0) 0 0 0 0 else none) else
(bif Nat.beq pc 1 then en (.getfield 25) 0 3 336 0 else none)) else
(bif Nat.blt pc 5 then
(bif Nat.beq pc 4 then en (.aload_n 0) 0 0 0 0 else none) else
(bif Nat.blt pc 8 then
(bif Nat.beq pc 5 then en (.getfield 12) 0 0 333 0 else none) else
(bif Nat.beq pc 8 then en (.invokevirtual 78) 30 0 938 94003 else none)))) else
(bif Nat.blt pc 15 then
(bif Nat.blt pc 12 then
(bif Nat.beq pc 11 then en (.aload_n 0) 0 0 0 0 else none) else
(bif Nat.beq pc 12 then en (.getfield 12) 0 0 333 0 else none)) else
(bif Nat.blt pc 16 then
(bif Nat.beq pc 15 then en (.aload_n 1) 0 0 0 0 else none) else
(bif Nat.blt pc 17 then
(bif Nat.beq pc 16 then en (.iload_n 2) 0 0 0 0 else none) else
(bif Nat.beq pc 17 then en (.iload_n 3) 0 0 0 0 else none))))) else
(bif Nat.blt pc 30 then
(bif Nat.blt pc 23 then
(bif Nat.blt pc 20 then
(bif Nat.beq pc 18 then en (.iload 4) 0 0 0 0 else none) else
(bif Nat.beq pc 20 then en (.invokevirtual 82) 36 0 943 94501 else none)) else
(bif Nat.blt pc 25 then
(bif Nat.beq pc 23 then en (.istore 5) 0 0 0 0 else none) else
(bif Nat.blt pc 27 then
(bif Nat.beq pc 25 then en (.iload 5) 0 0 0 0 else none) else
(bif Nat.beq pc 27 then en (.invokestatic 85) 99 1 982 0 else none)))) else
(bif Nat.blt pc 34 then
(bif Nat.blt pc 31 then
(bif Nat.beq pc 30 then en (.aload_n 0) 0 0 0 0 else none) else
(bif Nat.beq pc 31 then en (.getfield 25) 0 3 336 0 else none)) else
(bif Nat.blt pc 37 then
(bif Nat.beq pc 34 then en (.invokevirtual 89) 32 0 1033 103503 else none) else
(bif Nat.blt pc 39 then
(bif Nat.beq pc 37 then en (.iload 5) 0 0 0 0 else none) else
(bif Nat.beq pc 39 then en (.ireturn) 0 0 0 0 else none)))))) else none
/-- SingleTrackLine.throwIfRefused(I)V -/
def mc99 (pc : Nat) : Option En := bif Nat.blt pc 64 then (bif Nat.blt pc 31 then
(bif Nat.blt pc 15 then
(bif Nat.blt pc 2 then
(bif Nat.blt pc 1 then
(bif Nat.beq pc 0 then en (.iload_n 0) 0 0 0 0 else none) else
(bif Nat.beq pc 1 then en (.iconst (-1)) 0 0 0 0 else none)) else
(bif Nat.blt pc 5 then
(bif Nat.beq pc 2 then en (.if_icmp .ne 13) 15 0 0 0 else none) else
(bif Nat.beq pc 5 then en (.new 92) 1000 94 985 99400096 else none))) else
(bif Nat.blt pc 18 then
(bif Nat.blt pc 16 then
(bif Nat.beq pc 15 then en (.iload_n 0) 0 0 0 0 else none) else
(bif Nat.beq pc 16 then en (.bipush (-2)) 0 0 0 0 else none)) else
(bif Nat.blt pc 21 then
(bif Nat.beq pc 18 then en (.if_icmp .ne 13) 31 0 0 0 else none) else
(bif Nat.beq pc 21 then en (.new 99) 1001 101 998 99900103 else none)))) else
(bif Nat.blt pc 47 then
(bif Nat.blt pc 34 then
(bif Nat.blt pc 32 then
(bif Nat.beq pc 31 then en (.iload_n 0) 0 0 0 0 else none) else
(bif Nat.beq pc 32 then en (.bipush (-3)) 0 0 0 0 else none)) else
(bif Nat.blt pc 37 then
(bif Nat.beq pc 34 then en (.if_icmp .ne 13) 47 0 0 0 else none) else
(bif Nat.beq pc 37 then en (.new 104) 1002 106 1001 101000108 else none))) else
(bif Nat.blt pc 50 then
(bif Nat.blt pc 48 then
(bif Nat.beq pc 47 then en (.iload_n 0) 0 0 0 0 else none) else
(bif Nat.beq pc 48 then en (.bipush (-4)) 0 0 0 0 else none)) else
(bif Nat.blt pc 53 then
(bif Nat.beq pc 50 then en (.if_icmp .ne 13) 63 0 0 0 else none) else
(bif Nat.blt pc 63 then
(bif Nat.beq pc 53 then en (.new 109) 1003 111 1017 102600113 else none) else
(bif Nat.beq pc 63 then en (.return_) 0 0 0 0 else none)))))) else none
/-- SingleTrackLine.stationCount()I -/
def mc100 (pc : Nat) : Option En := bif Nat.blt pc 8 then (bif Nat.blt pc 4 then
(bif Nat.blt pc 1 then
(bif Nat.beq pc 0 then en (.aload_n 0) 0 0 0 0 else none) else
(bif Nat.beq pc 1 then en (.getfield 12) 0 0 333 0 else none)) else
(bif Nat.blt pc 7 then
(bif Nat.beq pc 4 then en (.getfield 114) 1 0 196 0 else none) else
(bif Nat.beq pc 7 then en (.ireturn) 0 0 0 0 else none))) else none
/-- SingleTrackLine.tracks(I)I -/
def mc101 (pc : Nat) : Option En := bif Nat.blt pc 15 then (bif Nat.blt pc 6 then
(bif Nat.blt pc 2 then
(bif Nat.blt pc 1 then
(bif Nat.beq pc 0 then en (.aload_n 0) 0 0 0 0 else none) else
(bif Nat.beq pc 1 then en (.iload_n 1) 0 0 0 0 else none)) else
(bif Nat.blt pc 5 then
(bif Nat.beq pc 2 then en (.invokevirtual 117) 109 0 1105 2000 else none) else
(bif Nat.beq pc 5 then en (.aload_n 0) 0 0 0 0 else none))) else
(bif Nat.blt pc 12 then
(bif Nat.blt pc 9 then
(bif Nat.beq pc 6 then en (.getfield 12) 0 0 333 0 else none) else
(bif Nat.beq pc 9 then en (.getfield 120) 1 1 198 0 else none)) else
(bif Nat.blt pc 13 then
(bif Nat.beq pc 12 then en (.iload_n 1) 0 0 0 0 else none) else
(bif Nat.blt pc 14 then
(bif Nat.beq pc 13 then en (.iaload) 0 0 0 0 else none) else
(bif Nat.beq pc 14 then en (.ireturn) 0 0 0 0 else none))))) else none
/-- SingleTrackLine.freeTracks(I)I -/
def mc102 (pc : Nat) : Option En := bif Nat.blt pc 14 then (bif Nat.blt pc 6 then
(bif Nat.blt pc 2 then
(bif Nat.blt pc 1 then
(bif Nat.beq pc 0 then en (.aload_n 0) 0 0 0 0 else none) else
(bif Nat.beq pc 1 then en (.iload_n 1) 0 0 0 0 else none)) else
(bif Nat.blt pc 5 then
(bif Nat.beq pc 2 then en (.invokevirtual 117) 109 0 1105 2000 else none) else
(bif Nat.beq pc 5 then en (.aload_n 0) 0 0 0 0 else none))) else
(bif Nat.blt pc 10 then
(bif Nat.blt pc 9 then
(bif Nat.beq pc 6 then en (.getfield 12) 0 0 333 0 else none) else
(bif Nat.beq pc 9 then en (.iload_n 1) 0 0 0 0 else none)) else
(bif Nat.blt pc 13 then
(bif Nat.beq pc 10 then en (.invokevirtual 124) 60 0 1117 44001 else none) else
(bif Nat.beq pc 13 then en (.ireturn) 0 0 0 0 else none)))) else none
/-- SingleTrackLine.trainsAt(I)I -/
def mc103 (pc : Nat) : Option En := bif Nat.blt pc 55 then (bif Nat.blt pc 24 then
(bif Nat.blt pc 11 then
(bif Nat.blt pc 5 then
(bif Nat.blt pc 1 then
(bif Nat.beq pc 0 then en (.aload_n 0) 0 0 0 0 else none) else
(bif Nat.blt pc 2 then
(bif Nat.beq pc 1 then en (.iload_n 1) 0 0 0 0 else none) else
(bif Nat.beq pc 2 then en (.invokevirtual 117) 109 0 1105 2000 else none))) else
(bif Nat.blt pc 7 then
(bif Nat.blt pc 6 then
(bif Nat.beq pc 5 then en (.iconst 0) 0 0 0 0 else none) else
(bif Nat.beq pc 6 then en (.istore_n 2) 0 0 0 0 else none)) else
(bif Nat.blt pc 8 then
(bif Nat.beq pc 7 then en (.aload_n 0) 0 0 0 0 else none) else
(bif Nat.beq pc 8 then en (.getfield 12) 0 0 333 0 else none)))) else
(bif Nat.blt pc 17 then
(bif Nat.blt pc 15 then
(bif Nat.blt pc 14 then
(bif Nat.beq pc 11 then en (.getfield 128) 1 4 203 0 else none) else
(bif Nat.beq pc 14 then en (.astore_n 3) 0 0 0 0 else none)) else
(bif Nat.blt pc 16 then
(bif Nat.beq pc 15 then en (.aload_n 3) 0 0 0 0 else none) else
(bif Nat.beq pc 16 then en (.arraylength) 0 0 0 0 else none))) else
(bif Nat.blt pc 20 then
(bif Nat.blt pc 19 then
(bif Nat.beq pc 17 then en (.istore 4) 0 0 0 0 else none) else
(bif Nat.beq pc 19 then en (.iconst 0) 0 0 0 0 else none)) else
(bif Nat.blt pc 22 then
(bif Nat.beq pc 20 then en (.istore 5) 0 0 0 0 else none) else
(bif Nat.beq pc 22 then en (.iload 5) 0 0 0 0 else none))))) else
(bif Nat.blt pc 37 then
(bif Nat.blt pc 30 then
(bif Nat.blt pc 26 then
(bif Nat.beq pc 24 then en (.iload 4) 0 0 0 0 else none) else
(bif Nat.blt pc 29 then
(bif Nat.beq pc 26 then en (.if_icmp .ge 27) 53 0 0 0 else none) else
(bif Nat.beq pc 29 then en (.aload_n 3) 0 0 0 0 else none))) else
(bif Nat.blt pc 33 then
(bif Nat.blt pc 32 then
(bif Nat.beq pc 30 then en (.iload 5) 0 0 0 0 else none) else
(bif Nat.beq pc 32 then en (.aaload) 0 0 0 0 else none)) else
(bif Nat.blt pc 35 then
(bif Nat.beq pc 33 then en (.astore 6) 0 0 0 0 else none) else
(bif Nat.beq pc 35 then en (.aload 6) 0 0 0 0 else none)))) else
(bif Nat.blt pc 47 then
(bif Nat.blt pc 41 then
(bif Nat.blt pc 38 then
(bif Nat.beq pc 37 then en (.iload_n 1) 0 0 0 0 else none) else
(bif Nat.beq pc 38 then en (.invokevirtual 132) 83 0 914 91602 else none)) else
(bif Nat.blt pc 44 then
(bif Nat.beq pc 41 then en (.ifCond .eq 6) 47 0 0 0 else none) else
(bif Nat.beq pc 44 then en (.iinc 2 1) 0 0 0 0 else none))) else
(bif Nat.blt pc 53 then
(bif Nat.blt pc 50 then
(bif Nat.beq pc 47 then en (.iinc 5 1) 0 0 0 0 else none) else
(bif Nat.beq pc 50 then en (.goto (-28)) 22 0 0 0 else none)) else
(bif Nat.blt pc 54 then
(bif Nat.beq pc 53 then en (.iload_n 2) 0 0 0 0 else none) else
(bif Nat.beq pc 54 then en (.ireturn) 0 0 0 0 else none)))))) else none
/-- SingleTrackLine.runningTime(I)I -/
def mc104 (pc : Nat) : Option En := bif Nat.blt pc 15 then (bif Nat.blt pc 6 then
(bif Nat.blt pc 2 then
(bif Nat.blt pc 1 then
(bif Nat.beq pc 0 then en (.aload_n 0) 0 0 0 0 else none) else
(bif Nat.beq pc 1 then en (.iload_n 1) 0 0 0 0 else none)) else
(bif Nat.blt pc 5 then
(bif Nat.beq pc 2 then en (.invokevirtual 138) 110 0 1132 2100 else none) else
(bif Nat.beq pc 5 then en (.aload_n 0) 0 0 0 0 else none))) else
(bif Nat.blt pc 12 then
(bif Nat.blt pc 9 then
(bif Nat.beq pc 6 then en (.getfield 12) 0 0 333 0 else none) else
(bif Nat.beq pc 9 then en (.getfield 141) 1 2 200 0 else none)) else
(bif Nat.blt pc 13 then
(bif Nat.beq pc 12 then en (.iload_n 1) 0 0 0 0 else none) else
(bif Nat.blt pc 14 then
(bif Nat.beq pc 13 then en (.iaload) 0 0 0 0 else none) else
(bif Nat.beq pc 14 then en (.ireturn) 0 0 0 0 else none))))) else none
/-- SingleTrackLine.isTokenFree(I)Z -/
def mc105 (pc : Nat) : Option En := bif Nat.blt pc 22 then (bif Nat.blt pc 10 then
(bif Nat.blt pc 5 then
(bif Nat.blt pc 1 then
(bif Nat.beq pc 0 then en (.aload_n 0) 0 0 0 0 else none) else
(bif Nat.blt pc 2 then
(bif Nat.beq pc 1 then en (.iload_n 1) 0 0 0 0 else none) else
(bif Nat.beq pc 2 then en (.invokevirtual 138) 110 0 1132 2100 else none))) else
(bif Nat.blt pc 6 then
(bif Nat.beq pc 5 then en (.aload_n 0) 0 0 0 0 else none) else
(bif Nat.blt pc 9 then
(bif Nat.beq pc 6 then en (.getfield 12) 0 0 333 0 else none) else
(bif Nat.beq pc 9 then en (.iload_n 1) 0 0 0 0 else none)))) else
(bif Nat.blt pc 17 then
(bif Nat.blt pc 13 then
(bif Nat.beq pc 10 then en (.invokevirtual 144) 59 0 885 41001 else none) else
(bif Nat.blt pc 16 then
(bif Nat.beq pc 13 then en (.ifnonnull 7) 20 0 0 0 else none) else
(bif Nat.beq pc 16 then en (.iconst 1) 0 0 0 0 else none))) else
(bif Nat.blt pc 20 then
(bif Nat.beq pc 17 then en (.goto 4) 21 0 0 0 else none) else
(bif Nat.blt pc 21 then
(bif Nat.beq pc 20 then en (.iconst 0) 0 0 0 0 else none) else
(bif Nat.beq pc 21 then en (.ireturn) 0 0 0 0 else none))))) else none
/-- SingleTrackLine.tokenHolder(I)I -/
def mc106 (pc : Nat) : Option En := bif Nat.blt pc 33 then (bif Nat.blt pc 13 then
(bif Nat.blt pc 5 then
(bif Nat.blt pc 1 then
(bif Nat.beq pc 0 then en (.aload_n 0) 0 0 0 0 else none) else
(bif Nat.blt pc 2 then
(bif Nat.beq pc 1 then en (.iload_n 1) 0 0 0 0 else none) else
(bif Nat.beq pc 2 then en (.invokevirtual 138) 110 0 1132 2100 else none))) else
(bif Nat.blt pc 9 then
(bif Nat.blt pc 6 then
(bif Nat.beq pc 5 then en (.aload_n 0) 0 0 0 0 else none) else
(bif Nat.beq pc 6 then en (.getfield 12) 0 0 333 0 else none)) else
(bif Nat.blt pc 10 then
(bif Nat.beq pc 9 then en (.iload_n 1) 0 0 0 0 else none) else
(bif Nat.beq pc 10 then en (.invokevirtual 144) 59 0 885 41001 else none)))) else
(bif Nat.blt pc 18 then
(bif Nat.blt pc 14 then
(bif Nat.beq pc 13 then en (.astore_n 2) 0 0 0 0 else none) else
(bif Nat.blt pc 15 then
(bif Nat.beq pc 14 then en (.aload_n 2) 0 0 0 0 else none) else
(bif Nat.beq pc 15 then en (.ifnonnull 13) 28 0 0 0 else none))) else
(bif Nat.blt pc 29 then
(bif Nat.blt pc 28 then
(bif Nat.beq pc 18 then en (.new 109) 1003 148 1017 115200113 else none) else
(bif Nat.beq pc 28 then en (.aload_n 2) 0 0 0 0 else none)) else
(bif Nat.blt pc 32 then
(bif Nat.beq pc 29 then en (.getfield 150) 2 1 139 0 else none) else
(bif Nat.beq pc 32 then en (.ireturn) 0 0 0 0 else none))))) else none
/-- SingleTrackLine.distance(II)I -/
def mc107 (pc : Nat) : Option En := bif Nat.blt pc 20 then (bif Nat.blt pc 10 then
(bif Nat.blt pc 5 then
(bif Nat.blt pc 1 then
(bif Nat.beq pc 0 then en (.aload_n 0) 0 0 0 0 else none) else
(bif Nat.blt pc 2 then
(bif Nat.beq pc 1 then en (.iload_n 1) 0 0 0 0 else none) else
(bif Nat.beq pc 2 then en (.invokevirtual 117) 109 0 1105 2000 else none))) else
(bif Nat.blt pc 6 then
(bif Nat.beq pc 5 then en (.aload_n 0) 0 0 0 0 else none) else
(bif Nat.blt pc 7 then
(bif Nat.beq pc 6 then en (.iload_n 2) 0 0 0 0 else none) else
(bif Nat.beq pc 7 then en (.invokevirtual 117) 109 0 1105 2000 else none)))) else
(bif Nat.blt pc 15 then
(bif Nat.blt pc 11 then
(bif Nat.beq pc 10 then en (.aload_n 0) 0 0 0 0 else none) else
(bif Nat.blt pc 14 then
(bif Nat.beq pc 11 then en (.getfield 12) 0 0 333 0 else none) else
(bif Nat.beq pc 14 then en (.iload_n 1) 0 0 0 0 else none))) else
(bif Nat.blt pc 16 then
(bif Nat.beq pc 15 then en (.iload_n 2) 0 0 0 0 else none) else
(bif Nat.blt pc 19 then
(bif Nat.beq pc 16 then en (.invokevirtual 153) 61 0 1160 50501 else none) else
(bif Nat.beq pc 19 then en (.ireturn) 0 0 0 0 else none))))) else none
/-- SingleTrackLine.distanceByPositions(II)I -/
def mc108 (pc : Nat) : Option En := bif Nat.blt pc 20 then (bif Nat.blt pc 10 then
(bif Nat.blt pc 5 then
(bif Nat.blt pc 1 then
(bif Nat.beq pc 0 then en (.aload_n 0) 0 0 0 0 else none) else
(bif Nat.blt pc 2 then
(bif Nat.beq pc 1 then en (.iload_n 1) 0 0 0 0 else none) else
(bif Nat.beq pc 2 then en (.invokevirtual 117) 109 0 1105 2000 else none))) else
(bif Nat.blt pc 6 then
(bif Nat.beq pc 5 then en (.aload_n 0) 0 0 0 0 else none) else
(bif Nat.blt pc 7 then
(bif Nat.beq pc 6 then en (.iload_n 2) 0 0 0 0 else none) else
(bif Nat.beq pc 7 then en (.invokevirtual 117) 109 0 1105 2000 else none)))) else
(bif Nat.blt pc 15 then
(bif Nat.blt pc 11 then
(bif Nat.beq pc 10 then en (.aload_n 0) 0 0 0 0 else none) else
(bif Nat.blt pc 14 then
(bif Nat.beq pc 11 then en (.getfield 12) 0 0 333 0 else none) else
(bif Nat.beq pc 14 then en (.iload_n 1) 0 0 0 0 else none))) else
(bif Nat.blt pc 16 then
(bif Nat.beq pc 15 then en (.iload_n 2) 0 0 0 0 else none) else
(bif Nat.blt pc 19 then
(bif Nat.beq pc 16 then en (.invokevirtual 157) 62 0 1168 50901 else none) else
(bif Nat.beq pc 19 then en (.ireturn) 0 0 0 0 else none))))) else none
/-- SingleTrackLine.requireStation(I)V -/
def mc109 (pc : Nat) : Option En := bif Nat.blt pc 22 then (bif Nat.blt pc 5 then
(bif Nat.blt pc 1 then
(bif Nat.beq pc 0 then en (.aload_n 0) 0 0 0 0 else none) else
(bif Nat.blt pc 4 then
(bif Nat.beq pc 1 then en (.getfield 12) 0 0 333 0 else none) else
(bif Nat.beq pc 4 then en (.iload_n 1) 0 0 0 0 else none))) else
(bif Nat.blt pc 11 then
(bif Nat.blt pc 8 then
(bif Nat.beq pc 5 then en (.invokevirtual 160) 55 0 1109 51301 else none) else
(bif Nat.beq pc 8 then en (.ifCond .ne 13) 21 0 0 0 else none)) else
(bif Nat.blt pc 21 then
(bif Nat.beq pc 11 then en (.new 92) 1000 94 985 99400096 else none) else
(bif Nat.beq pc 21 then en (.return_) 0 0 0 0 else none)))) else none
/-- SingleTrackLine.requireSection(I)V -/
def mc110 (pc : Nat) : Option En := bif Nat.blt pc 22 then (bif Nat.blt pc 5 then
(bif Nat.blt pc 1 then
(bif Nat.beq pc 0 then en (.aload_n 0) 0 0 0 0 else none) else
(bif Nat.blt pc 4 then
(bif Nat.beq pc 1 then en (.getfield 12) 0 0 333 0 else none) else
(bif Nat.beq pc 4 then en (.iload_n 1) 0 0 0 0 else none))) else
(bif Nat.blt pc 11 then
(bif Nat.blt pc 8 then
(bif Nat.beq pc 5 then en (.invokevirtual 163) 56 0 1136 46801 else none) else
(bif Nat.beq pc 8 then en (.ifCond .ne 13) 21 0 0 0 else none)) else
(bif Nat.blt pc 21 then
(bif Nat.beq pc 11 then en (.new 92) 1000 166 985 113700096 else none) else
(bif Nat.beq pc 21 then en (.return_) 0 0 0 0 else none)))) else none
/-- SingleTrackLine.trainCount()I -/
def mc111 (pc : Nat) : Option En := bif Nat.blt pc 8 then (bif Nat.blt pc 4 then
(bif Nat.blt pc 1 then
(bif Nat.beq pc 0 then en (.aload_n 0) 0 0 0 0 else none) else
(bif Nat.beq pc 1 then en (.getfield 12) 0 0 333 0 else none)) else
(bif Nat.blt pc 7 then
(bif Nat.beq pc 4 then en (.getfield 168) 1 5 205 0 else none) else
(bif Nat.beq pc 7 then en (.ireturn) 0 0 0 0 else none))) else none
/-- SingleTrackLine.exists(I)Z -/
def mc112 (pc : Nat) : Option En := bif Nat.blt pc 17 then (bif Nat.blt pc 8 then
(bif Nat.blt pc 4 then
(bif Nat.blt pc 1 then
(bif Nat.beq pc 0 then en (.aload_n 0) 0 0 0 0 else none) else
(bif Nat.beq pc 1 then en (.getfield 12) 0 0 333 0 else none)) else
(bif Nat.blt pc 5 then
(bif Nat.beq pc 4 then en (.iload_n 1) 0 0 0 0 else none) else
(bif Nat.beq pc 5 then en (.invokevirtual 171) 58 0 373 37501 else none))) else
(bif Nat.blt pc 12 then
(bif Nat.blt pc 11 then
(bif Nat.beq pc 8 then en (.ifnull 7) 15 0 0 0 else none) else
(bif Nat.beq pc 11 then en (.iconst 1) 0 0 0 0 else none)) else
(bif Nat.blt pc 15 then
(bif Nat.beq pc 12 then en (.goto 4) 16 0 0 0 else none) else
(bif Nat.blt pc 16 then
(bif Nat.beq pc 15 then en (.iconst 0) 0 0 0 0 else none) else
(bif Nat.beq pc 16 then en (.ireturn) 0 0 0 0 else none))))) else none
/-- SingleTrackLine.isExpected(I)Z -/
def mc113 (pc : Nat) : Option En := bif Nat.blt pc 20 then (bif Nat.blt pc 11 then
(bif Nat.blt pc 2 then
(bif Nat.blt pc 1 then
(bif Nat.beq pc 0 then en (.aload_n 0) 0 0 0 0 else none) else
(bif Nat.beq pc 1 then en (.iload_n 1) 0 0 0 0 else none)) else
(bif Nat.blt pc 5 then
(bif Nat.beq pc 2 then en (.invokevirtual 174) 124 0 1176 2200 else none) else
(bif Nat.blt pc 8 then
(bif Nat.beq pc 5 then en (.getfield 177) 2 0 136 0 else none) else
(bif Nat.beq pc 8 then en (.getstatic 181) 1 0 1180 0 else none)))) else
(bif Nat.blt pc 15 then
(bif Nat.blt pc 14 then
(bif Nat.beq pc 11 then en (.if_acmp .ne 7) 18 0 0 0 else none) else
(bif Nat.beq pc 14 then en (.iconst 1) 0 0 0 0 else none)) else
(bif Nat.blt pc 18 then
(bif Nat.beq pc 15 then en (.goto 4) 19 0 0 0 else none) else
(bif Nat.blt pc 19 then
(bif Nat.beq pc 18 then en (.iconst 0) 0 0 0 0 else none) else
(bif Nat.beq pc 19 then en (.ireturn) 0 0 0 0 else none))))) else none
/-- SingleTrackLine.isHeld(I)Z -/
def mc114 (pc : Nat) : Option En := bif Nat.blt pc 9 then (bif Nat.blt pc 2 then
(bif Nat.blt pc 1 then
(bif Nat.beq pc 0 then en (.aload_n 0) 0 0 0 0 else none) else
(bif Nat.beq pc 1 then en (.iload_n 1) 0 0 0 0 else none)) else
(bif Nat.blt pc 5 then
(bif Nat.beq pc 2 then en (.invokevirtual 174) 124 0 1176 2200 else none) else
(bif Nat.blt pc 8 then
(bif Nat.beq pc 5 then en (.getfield 186) 2 9 163 0 else none) else
(bif Nat.beq pc 8 then en (.ireturn) 0 0 0 0 else none)))) else none
/-- SingleTrackLine.stationOf(I)I -/
def mc115 (pc : Nat) : Option En := bif Nat.blt pc 31 then (bif Nat.blt pc 10 then
(bif Nat.blt pc 5 then
(bif Nat.blt pc 1 then
(bif Nat.beq pc 0 then en (.aload_n 0) 0 0 0 0 else none) else
(bif Nat.blt pc 2 then
(bif Nat.beq pc 1 then en (.iload_n 1) 0 0 0 0 else none) else
(bif Nat.beq pc 2 then en (.invokevirtual 174) 124 0 1176 2200 else none))) else
(bif Nat.blt pc 6 then
(bif Nat.beq pc 5 then en (.astore_n 2) 0 0 0 0 else none) else
(bif Nat.blt pc 7 then
(bif Nat.beq pc 6 then en (.aload_n 2) 0 0 0 0 else none) else
(bif Nat.beq pc 7 then en (.getfield 177) 2 0 136 0 else none)))) else
(bif Nat.blt pc 26 then
(bif Nat.blt pc 13 then
(bif Nat.beq pc 10 then en (.getstatic 190) 2 0 1195 0 else none) else
(bif Nat.blt pc 16 then
(bif Nat.beq pc 13 then en (.if_acmp .eq 13) 26 0 0 0 else none) else
(bif Nat.beq pc 16 then en (.new 104) 1002 193 1001 119600108 else none))) else
(bif Nat.blt pc 27 then
(bif Nat.beq pc 26 then en (.aload_n 2) 0 0 0 0 else none) else
(bif Nat.blt pc 30 then
(bif Nat.beq pc 27 then en (.getfield 195) 2 6 154 0 else none) else
(bif Nat.beq pc 30 then en (.ireturn) 0 0 0 0 else none))))) else none
/-- SingleTrackLine.sectionOf(I)I -/
def mc116 (pc : Nat) : Option En := bif Nat.blt pc 9 then (bif Nat.blt pc 2 then
(bif Nat.blt pc 1 then
(bif Nat.beq pc 0 then en (.aload_n 0) 0 0 0 0 else none) else
(bif Nat.beq pc 1 then en (.iload_n 1) 0 0 0 0 else none)) else
(bif Nat.blt pc 5 then
(bif Nat.beq pc 2 then en (.invokevirtual 198) 125 0 1204 2300 else none) else
(bif Nat.blt pc 8 then
(bif Nat.beq pc 5 then en (.getfield 201) 2 7 157 0 else none) else
(bif Nat.beq pc 8 then en (.ireturn) 0 0 0 0 else none)))) else none
/-- SingleTrackLine.remainingTime(I)I -/
def mc117 (pc : Nat) : Option En := bif Nat.blt pc 9 then (bif Nat.blt pc 2 then
(bif Nat.blt pc 1 then
(bif Nat.beq pc 0 then en (.aload_n 0) 0 0 0 0 else none) else
(bif Nat.beq pc 1 then en (.iload_n 1) 0 0 0 0 else none)) else
(bif Nat.blt pc 5 then
(bif Nat.beq pc 2 then en (.invokevirtual 198) 125 0 1204 2300 else none) else
(bif Nat.blt pc 8 then
(bif Nat.beq pc 5 then en (.getfield 204) 2 8 160 0 else none) else
(bif Nat.beq pc 8 then en (.ireturn) 0 0 0 0 else none)))) else none
/-- SingleTrackLine.waitedMinutes(I)I -/
def mc118 (pc : Nat) : Option En := bif Nat.blt pc 9 then (bif Nat.blt pc 2 then
(bif Nat.blt pc 1 then
(bif Nat.beq pc 0 then en (.aload_n 0) 0 0 0 0 else none) else
(bif Nat.beq pc 1 then en (.iload_n 1) 0 0 0 0 else none)) else
(bif Nat.blt pc 5 then
(bif Nat.beq pc 2 then en (.invokevirtual 174) 124 0 1176 2200 else none) else
(bif Nat.blt pc 8 then
(bif Nat.beq pc 5 then en (.getfield 207) 2 10 166 0 else none) else
(bif Nat.beq pc 8 then en (.ireturn) 0 0 0 0 else none)))) else none
/-- SingleTrackLine.plannedArrival(I)I -/
def mc119 (pc : Nat) : Option En := bif Nat.blt pc 9 then (bif Nat.blt pc 2 then
(bif Nat.blt pc 1 then
(bif Nat.beq pc 0 then en (.aload_n 0) 0 0 0 0 else none) else
(bif Nat.beq pc 1 then en (.iload_n 1) 0 0 0 0 else none)) else
(bif Nat.blt pc 5 then
(bif Nat.beq pc 2 then en (.invokevirtual 174) 124 0 1176 2200 else none) else
(bif Nat.blt pc 8 then
(bif Nat.beq pc 5 then en (.getfield 210) 2 5 151 0 else none) else
(bif Nat.beq pc 8 then en (.ireturn) 0 0 0 0 else none)))) else none
/-- SingleTrackLine.arrivalAlone(I)I -/
def mc120 (pc : Nat) : Option En := bif Nat.blt pc 48 then (bif Nat.blt pc 27 then
(bif Nat.blt pc 7 then
(bif Nat.blt pc 2 then
(bif Nat.blt pc 1 then
(bif Nat.beq pc 0 then en (.aload_n 0) 0 0 0 0 else none) else
(bif Nat.beq pc 1 then en (.iload_n 1) 0 0 0 0 else none)) else
(bif Nat.blt pc 5 then
(bif Nat.beq pc 2 then en (.invokevirtual 174) 124 0 1176 2200 else none) else
(bif Nat.blt pc 6 then
(bif Nat.beq pc 5 then en (.astore_n 2) 0 0 0 0 else none) else
(bif Nat.beq pc 6 then en (.aload_n 0) 0 0 0 0 else none)))) else
(bif Nat.blt pc 11 then
(bif Nat.blt pc 10 then
(bif Nat.beq pc 7 then en (.getfield 12) 0 0 333 0 else none) else
(bif Nat.beq pc 10 then en (.aload_n 2) 0 0 0 0 else none)) else
(bif Nat.blt pc 14 then
(bif Nat.beq pc 11 then en (.invokevirtual 213) 63 0 1238 52401 else none) else
(bif Nat.blt pc 17 then
(bif Nat.beq pc 14 then en (.ifCond .ne 13) 27 0 0 0 else none) else
(bif Nat.beq pc 17 then en (.new 104) 1002 217 1001 123900108 else none))))) else
(bif Nat.blt pc 36 then
(bif Nat.blt pc 31 then
(bif Nat.blt pc 28 then
(bif Nat.beq pc 27 then en (.aload_n 0) 0 0 0 0 else none) else
(bif Nat.beq pc 28 then en (.getfield 19) 0 2 335 0 else none)) else
(bif Nat.blt pc 32 then
(bif Nat.beq pc 31 then en (.aload_n 0) 0 0 0 0 else none) else
(bif Nat.blt pc 35 then
(bif Nat.beq pc 32 then en (.getfield 12) 0 0 333 0 else none) else
(bif Nat.beq pc 35 then en (.iload_n 1) 0 0 0 0 else none)))) else
(bif Nat.blt pc 43 then
(bif Nat.blt pc 39 then
(bif Nat.beq pc 36 then en (.invokevirtual 219) 51 0 1240 52801 else none) else
(bif Nat.blt pc 40 then
(bif Nat.beq pc 39 then en (.aload_n 0) 0 0 0 0 else none) else
(bif Nat.beq pc 40 then en (.getfield 19) 0 2 335 0 else none))) else
(bif Nat.blt pc 44 then
(bif Nat.beq pc 43 then en (.iload_n 1) 0 0 0 0 else none) else
(bif Nat.blt pc 47 then
(bif Nat.beq pc 44 then en (.invokevirtual 223) 52 0 1241 53301 else none) else
(bif Nat.beq pc 47 then en (.ireturn) 0 0 0 0 else none)))))) else none
/-- SingleTrackLine.predictedArrival(I)I -/
def mc121 (pc : Nat) : Option En := bif Nat.blt pc 43 then (bif Nat.blt pc 18 then
(bif Nat.blt pc 7 then
(bif Nat.blt pc 2 then
(bif Nat.blt pc 1 then
(bif Nat.beq pc 0 then en (.aload_n 0) 0 0 0 0 else none) else
(bif Nat.beq pc 1 then en (.iload_n 1) 0 0 0 0 else none)) else
(bif Nat.blt pc 5 then
(bif Nat.beq pc 2 then en (.invokevirtual 174) 124 0 1176 2200 else none) else
(bif Nat.blt pc 6 then
(bif Nat.beq pc 5 then en (.pop) 0 0 0 0 else none) else
(bif Nat.beq pc 6 then en (.aload_n 0) 0 0 0 0 else none)))) else
(bif Nat.blt pc 11 then
(bif Nat.blt pc 10 then
(bif Nat.beq pc 7 then en (.getfield 19) 0 2 335 0 else none) else
(bif Nat.beq pc 10 then en (.aload_n 0) 0 0 0 0 else none)) else
(bif Nat.blt pc 14 then
(bif Nat.beq pc 11 then en (.getfield 12) 0 0 333 0 else none) else
(bif Nat.blt pc 17 then
(bif Nat.beq pc 14 then en (.invokevirtual 226) 35 0 385 38701 else none) else
(bif Nat.beq pc 17 then en (.aload_n 0) 0 0 0 0 else none))))) else
(bif Nat.blt pc 27 then
(bif Nat.blt pc 22 then
(bif Nat.blt pc 21 then
(bif Nat.beq pc 18 then en (.getfield 19) 0 2 335 0 else none) else
(bif Nat.beq pc 21 then en (.iload_n 1) 0 0 0 0 else none)) else
(bif Nat.blt pc 25 then
(bif Nat.beq pc 22 then en (.invokevirtual 223) 52 0 1241 53301 else none) else
(bif Nat.blt pc 26 then
(bif Nat.beq pc 25 then en (.istore_n 2) 0 0 0 0 else none) else
(bif Nat.beq pc 26 then en (.iload_n 2) 0 0 0 0 else none)))) else
(bif Nat.blt pc 31 then
(bif Nat.blt pc 28 then
(bif Nat.beq pc 27 then en (.iconst (-1)) 0 0 0 0 else none) else
(bif Nat.beq pc 28 then en (.if_icmp .ne 13) 41 0 0 0 else none)) else
(bif Nat.blt pc 41 then
(bif Nat.beq pc 31 then en (.new 109) 1003 229 1017 124900113 else none) else
(bif Nat.blt pc 42 then
(bif Nat.beq pc 41 then en (.iload_n 2) 0 0 0 0 else none) else
(bif Nat.beq pc 42 then en (.ireturn) 0 0 0 0 else none)))))) else none
/-- SingleTrackLine.stuckTrains()I -/
def mc122 (pc : Nat) : Option En := bif Nat.blt pc 19 then (bif Nat.blt pc 8 then
(bif Nat.blt pc 4 then
(bif Nat.blt pc 1 then
(bif Nat.beq pc 0 then en (.aload_n 0) 0 0 0 0 else none) else
(bif Nat.beq pc 1 then en (.getfield 19) 0 2 335 0 else none)) else
(bif Nat.blt pc 5 then
(bif Nat.beq pc 4 then en (.aload_n 0) 0 0 0 0 else none) else
(bif Nat.beq pc 5 then en (.getfield 12) 0 0 333 0 else none))) else
(bif Nat.blt pc 12 then
(bif Nat.blt pc 11 then
(bif Nat.beq pc 8 then en (.invokevirtual 226) 35 0 385 38701 else none) else
(bif Nat.beq pc 11 then en (.aload_n 0) 0 0 0 0 else none)) else
(bif Nat.blt pc 15 then
(bif Nat.beq pc 12 then en (.getfield 19) 0 2 335 0 else none) else
(bif Nat.blt pc 18 then
(bif Nat.beq pc 15 then en (.invokevirtual 231) 53 0 396 39801 else none) else
(bif Nat.beq pc 18 then en (.ireturn) 0 0 0 0 else none))))) else none
/-- SingleTrackLine.trainAtRank(I)I -/
def mc123 (pc : Nat) : Option En := bif Nat.blt pc 60 then (bif Nat.blt pc 24 then
(bif Nat.blt pc 11 then
(bif Nat.blt pc 7 then
(bif Nat.blt pc 1 then
(bif Nat.beq pc 0 then en (.aload_n 0) 0 0 0 0 else none) else
(bif Nat.blt pc 4 then
(bif Nat.beq pc 1 then en (.getfield 12) 0 0 333 0 else none) else
(bif Nat.beq pc 4 then en (.getfield 128) 1 4 203 0 else none))) else
(bif Nat.blt pc 9 then
(bif Nat.blt pc 8 then
(bif Nat.beq pc 7 then en (.astore_n 2) 0 0 0 0 else none) else
(bif Nat.beq pc 8 then en (.aload_n 2) 0 0 0 0 else none)) else
(bif Nat.blt pc 10 then
(bif Nat.beq pc 9 then en (.arraylength) 0 0 0 0 else none) else
(bif Nat.beq pc 10 then en (.istore_n 3) 0 0 0 0 else none)))) else
(bif Nat.blt pc 17 then
(bif Nat.blt pc 14 then
(bif Nat.blt pc 12 then
(bif Nat.beq pc 11 then en (.iconst 0) 0 0 0 0 else none) else
(bif Nat.beq pc 12 then en (.istore 4) 0 0 0 0 else none)) else
(bif Nat.blt pc 16 then
(bif Nat.beq pc 14 then en (.iload 4) 0 0 0 0 else none) else
(bif Nat.beq pc 16 then en (.iload_n 3) 0 0 0 0 else none))) else
(bif Nat.blt pc 21 then
(bif Nat.blt pc 20 then
(bif Nat.beq pc 17 then en (.if_icmp .ge 42) 59 0 0 0 else none) else
(bif Nat.beq pc 20 then en (.aload_n 2) 0 0 0 0 else none)) else
(bif Nat.blt pc 23 then
(bif Nat.beq pc 21 then en (.iload 4) 0 0 0 0 else none) else
(bif Nat.beq pc 23 then en (.aaload) 0 0 0 0 else none))))) else
(bif Nat.blt pc 43 then
(bif Nat.blt pc 34 then
(bif Nat.blt pc 28 then
(bif Nat.blt pc 26 then
(bif Nat.beq pc 24 then en (.astore 5) 0 0 0 0 else none) else
(bif Nat.beq pc 26 then en (.aload 5) 0 0 0 0 else none)) else
(bif Nat.blt pc 31 then
(bif Nat.beq pc 28 then en (.invokevirtual 235) 82 0 1257 37902 else none) else
(bif Nat.beq pc 31 then en (.ifCond .eq 22) 53 0 0 0 else none))) else
(bif Nat.blt pc 38 then
(bif Nat.blt pc 35 then
(bif Nat.beq pc 34 then en (.aload_n 0) 0 0 0 0 else none) else
(bif Nat.beq pc 35 then en (.getfield 12) 0 0 333 0 else none)) else
(bif Nat.blt pc 40 then
(bif Nat.beq pc 38 then en (.aload 5) 0 0 0 0 else none) else
(bif Nat.beq pc 40 then en (.invokevirtual 239) 64 0 1258 126001 else none)))) else
(bif Nat.blt pc 52 then
(bif Nat.blt pc 47 then
(bif Nat.blt pc 44 then
(bif Nat.beq pc 43 then en (.iload_n 1) 0 0 0 0 else none) else
(bif Nat.beq pc 44 then en (.if_icmp .ne 9) 53 0 0 0 else none)) else
(bif Nat.blt pc 49 then
(bif Nat.beq pc 47 then en (.aload 5) 0 0 0 0 else none) else
(bif Nat.beq pc 49 then en (.getfield 150) 2 1 139 0 else none))) else
(bif Nat.blt pc 56 then
(bif Nat.blt pc 53 then
(bif Nat.beq pc 52 then en (.ireturn) 0 0 0 0 else none) else
(bif Nat.beq pc 53 then en (.iinc 4 1) 0 0 0 0 else none)) else
(bif Nat.blt pc 59 then
(bif Nat.beq pc 56 then en (.goto (-42)) 14 0 0 0 else none) else
(bif Nat.beq pc 59 then en (.new 109) 1003 243 1017 126600113 else none)))))) else none
/-- SingleTrackLine.requireTrain(I)LSingleTrackLine$Train; -/
def mc124 (pc : Nat) : Option En := bif Nat.blt pc 25 then (bif Nat.blt pc 9 then
(bif Nat.blt pc 4 then
(bif Nat.blt pc 1 then
(bif Nat.beq pc 0 then en (.aload_n 0) 0 0 0 0 else none) else
(bif Nat.beq pc 1 then en (.getfield 12) 0 0 333 0 else none)) else
(bif Nat.blt pc 5 then
(bif Nat.beq pc 4 then en (.iload_n 1) 0 0 0 0 else none) else
(bif Nat.blt pc 8 then
(bif Nat.beq pc 5 then en (.invokevirtual 171) 58 0 373 37501 else none) else
(bif Nat.beq pc 8 then en (.astore_n 2) 0 0 0 0 else none)))) else
(bif Nat.blt pc 13 then
(bif Nat.blt pc 10 then
(bif Nat.beq pc 9 then en (.aload_n 2) 0 0 0 0 else none) else
(bif Nat.beq pc 10 then en (.ifnonnull 13) 23 0 0 0 else none)) else
(bif Nat.blt pc 23 then
(bif Nat.beq pc 13 then en (.new 109) 1003 111 1017 102600113 else none) else
(bif Nat.blt pc 24 then
(bif Nat.beq pc 23 then en (.aload_n 2) 0 0 0 0 else none) else
(bif Nat.beq pc 24 then en (.areturn) 0 0 0 0 else none))))) else none
/-- SingleTrackLine.requireTrainInSection(I)LSingleTrackLine$Train; -/
def mc125 (pc : Nat) : Option En := bif Nat.blt pc 28 then (bif Nat.blt pc 7 then
(bif Nat.blt pc 2 then
(bif Nat.blt pc 1 then
(bif Nat.beq pc 0 then en (.aload_n 0) 0 0 0 0 else none) else
(bif Nat.beq pc 1 then en (.iload_n 1) 0 0 0 0 else none)) else
(bif Nat.blt pc 5 then
(bif Nat.beq pc 2 then en (.invokevirtual 174) 124 0 1176 2200 else none) else
(bif Nat.blt pc 6 then
(bif Nat.beq pc 5 then en (.astore_n 2) 0 0 0 0 else none) else
(bif Nat.beq pc 6 then en (.aload_n 2) 0 0 0 0 else none)))) else
(bif Nat.blt pc 16 then
(bif Nat.blt pc 10 then
(bif Nat.beq pc 7 then en (.getfield 177) 2 0 136 0 else none) else
(bif Nat.blt pc 13 then
(bif Nat.beq pc 10 then en (.getstatic 245) 3 0 1208 0 else none) else
(bif Nat.beq pc 13 then en (.if_acmp .eq 13) 26 0 0 0 else none))) else
(bif Nat.blt pc 26 then
(bif Nat.beq pc 16 then en (.new 104) 1002 248 1001 120900108 else none) else
(bif Nat.blt pc 27 then
(bif Nat.beq pc 26 then en (.aload_n 2) 0 0 0 0 else none) else
(bif Nat.beq pc 27 then en (.areturn) 0 0 0 0 else none))))) else none
/-- SingleTrackLine.time()I -/
def mc126 (pc : Nat) : Option En := bif Nat.blt pc 8 then (bif Nat.blt pc 4 then
(bif Nat.blt pc 1 then
(bif Nat.beq pc 0 then en (.aload_n 0) 0 0 0 0 else none) else
(bif Nat.beq pc 1 then en (.getfield 12) 0 0 333 0 else none)) else
(bif Nat.blt pc 7 then
(bif Nat.beq pc 4 then en (.getfield 250) 1 7 208 0 else none) else
(bif Nat.beq pc 7 then en (.ireturn) 0 0 0 0 else none))) else none
/-- SingleTrackLine.finishedTrains()I -/
def mc127 (pc : Nat) : Option En := bif Nat.blt pc 8 then (bif Nat.blt pc 4 then
(bif Nat.blt pc 1 then
(bif Nat.beq pc 0 then en (.aload_n 0) 0 0 0 0 else none) else
(bif Nat.beq pc 1 then en (.getfield 12) 0 0 333 0 else none)) else
(bif Nat.blt pc 7 then
(bif Nat.beq pc 4 then en (.getfield 253) 1 8 210 0 else none) else
(bif Nat.beq pc 7 then en (.ireturn) 0 0 0 0 else none))) else none
/-- SingleTrackLine.lastFinished()I -/
def mc128 (pc : Nat) : Option En := bif Nat.blt pc 12 then (bif Nat.blt pc 5 then
(bif Nat.blt pc 1 then
(bif Nat.beq pc 0 then en (.aload_n 0) 0 0 0 0 else none) else
(bif Nat.blt pc 4 then
(bif Nat.beq pc 1 then en (.invokevirtual 256) 134 0 1274 2400 else none) else
(bif Nat.beq pc 4 then en (.aload_n 0) 0 0 0 0 else none))) else
(bif Nat.blt pc 8 then
(bif Nat.beq pc 5 then en (.getfield 12) 0 0 333 0 else none) else
(bif Nat.blt pc 11 then
(bif Nat.beq pc 8 then en (.getfield 259) 1 9 212 0 else none) else
(bif Nat.beq pc 11 then en (.ireturn) 0 0 0 0 else none)))) else none
/-- SingleTrackLine.totalDelay()J -/
def mc129 (pc : Nat) : Option En := bif Nat.blt pc 8 then (bif Nat.blt pc 4 then
(bif Nat.blt pc 1 then
(bif Nat.beq pc 0 then en (.aload_n 0) 0 0 0 0 else none) else
(bif Nat.beq pc 1 then en (.getfield 12) 0 0 333 0 else none)) else
(bif Nat.blt pc 7 then
(bif Nat.beq pc 4 then en (.getfield 262) 1 10 214 0 else none) else
(bif Nat.beq pc 7 then en (.lreturn) 0 0 0 0 else none))) else none
/-- SingleTrackLine.greatestDelay()I -/
def mc130 (pc : Nat) : Option En := bif Nat.blt pc 12 then (bif Nat.blt pc 5 then
(bif Nat.blt pc 1 then
(bif Nat.beq pc 0 then en (.aload_n 0) 0 0 0 0 else none) else
(bif Nat.blt pc 4 then
(bif Nat.beq pc 1 then en (.invokevirtual 256) 134 0 1274 2400 else none) else
(bif Nat.beq pc 4 then en (.aload_n 0) 0 0 0 0 else none))) else
(bif Nat.blt pc 8 then
(bif Nat.beq pc 5 then en (.getfield 12) 0 0 333 0 else none) else
(bif Nat.blt pc 11 then
(bif Nat.beq pc 8 then en (.getfield 266) 1 11 216 0 else none) else
(bif Nat.beq pc 11 then en (.ireturn) 0 0 0 0 else none)))) else none
/-- SingleTrackLine.meanDelay()D -/
def mc131 (pc : Nat) : Option En := bif Nat.blt pc 39 then (bif Nat.blt pc 25 then
(bif Nat.blt pc 7 then
(bif Nat.blt pc 1 then
(bif Nat.beq pc 0 then en (.aload_n 0) 0 0 0 0 else none) else
(bif Nat.blt pc 4 then
(bif Nat.beq pc 1 then en (.getfield 12) 0 0 333 0 else none) else
(bif Nat.beq pc 4 then en (.getfield 253) 1 8 210 0 else none))) else
(bif Nat.blt pc 21 then
(bif Nat.blt pc 10 then
(bif Nat.beq pc 7 then en (.ifCond .gt 14) 21 0 0 0 else none) else
(bif Nat.beq pc 10 then en (.new 269) 1004 100271 1307 127800273 else none)) else
(bif Nat.blt pc 22 then
(bif Nat.beq pc 21 then en (.aload_n 0) 0 0 0 0 else none) else
(bif Nat.beq pc 22 then en (.getfield 12) 0 0 333 0 else none)))) else
(bif Nat.blt pc 33 then
(bif Nat.blt pc 29 then
(bif Nat.blt pc 28 then
(bif Nat.beq pc 25 then en (.getfield 262) 1 10 214 0 else none) else
(bif Nat.beq pc 28 then en (.l2d) 0 0 0 0 else none)) else
(bif Nat.blt pc 30 then
(bif Nat.beq pc 29 then en (.aload_n 0) 0 0 0 0 else none) else
(bif Nat.beq pc 30 then en (.getfield 12) 0 0 333 0 else none))) else
(bif Nat.blt pc 37 then
(bif Nat.blt pc 36 then
(bif Nat.beq pc 33 then en (.getfield 253) 1 8 210 0 else none) else
(bif Nat.beq pc 36 then en (.i2d) 0 0 0 0 else none)) else
(bif Nat.blt pc 38 then
(bif Nat.beq pc 37 then en (.ddiv) 0 0 0 0 else none) else
(bif Nat.beq pc 38 then en (.dreturn) 0 0 0 0 else none))))) else none
/-- SingleTrackLine.punctualShare()F -/
def mc132 (pc : Nat) : Option En := bif Nat.blt pc 39 then (bif Nat.blt pc 25 then
(bif Nat.blt pc 7 then
(bif Nat.blt pc 1 then
(bif Nat.beq pc 0 then en (.aload_n 0) 0 0 0 0 else none) else
(bif Nat.blt pc 4 then
(bif Nat.beq pc 1 then en (.getfield 12) 0 0 333 0 else none) else
(bif Nat.beq pc 4 then en (.getfield 253) 1 8 210 0 else none))) else
(bif Nat.blt pc 21 then
(bif Nat.blt pc 10 then
(bif Nat.beq pc 7 then en (.ifCond .gt 14) 21 0 0 0 else none) else
(bif Nat.beq pc 10 then en (.new 269) 1004 100271 1307 127800273 else none)) else
(bif Nat.blt pc 22 then
(bif Nat.beq pc 21 then en (.aload_n 0) 0 0 0 0 else none) else
(bif Nat.beq pc 22 then en (.getfield 12) 0 0 333 0 else none)))) else
(bif Nat.blt pc 33 then
(bif Nat.blt pc 29 then
(bif Nat.blt pc 28 then
(bif Nat.beq pc 25 then en (.getfield 274) 1 12 218 0 else none) else
(bif Nat.beq pc 28 then en (.i2f) 0 0 0 0 else none)) else
(bif Nat.blt pc 30 then
(bif Nat.beq pc 29 then en (.aload_n 0) 0 0 0 0 else none) else
(bif Nat.beq pc 30 then en (.getfield 12) 0 0 333 0 else none))) else
(bif Nat.blt pc 37 then
(bif Nat.blt pc 36 then
(bif Nat.beq pc 33 then en (.getfield 253) 1 8 210 0 else none) else
(bif Nat.beq pc 36 then en (.i2f) 0 0 0 0 else none)) else
(bif Nat.blt pc 38 then
(bif Nat.beq pc 37 then en (.fdiv) 0 0 0 0 else none) else
(bif Nat.beq pc 38 then en (.freturn) 0 0 0 0 else none))))) else none
/-- SingleTrackLine.isConsistent()Z -/
def mc133 (pc : Nat) : Option En := bif Nat.blt pc 50 then (bif Nat.blt pc 27 then
(bif Nat.blt pc 11 then
(bif Nat.blt pc 4 then
(bif Nat.blt pc 1 then
(bif Nat.beq pc 0 then en (.aload_n 0) 0 0 0 0 else none) else
(bif Nat.beq pc 1 then en (.getfield 12) 0 0 333 0 else none)) else
(bif Nat.blt pc 7 then
(bif Nat.beq pc 4 then en (.invokevirtual 277) 65 0 491 49301 else none) else
(bif Nat.blt pc 10 then
(bif Nat.beq pc 7 then en (.ifCond .eq 41) 48 0 0 0 else none) else
(bif Nat.beq pc 10 then en (.aload_n 0) 0 0 0 0 else none)))) else
(bif Nat.blt pc 20 then
(bif Nat.blt pc 14 then
(bif Nat.beq pc 11 then en (.getfield 12) 0 0 333 0 else none) else
(bif Nat.blt pc 17 then
(bif Nat.beq pc 14 then en (.invokevirtual 280) 66 0 495 49701 else none) else
(bif Nat.beq pc 17 then en (.ifCond .eq 31) 48 0 0 0 else none))) else
(bif Nat.blt pc 21 then
(bif Nat.beq pc 20 then en (.aload_n 0) 0 0 0 0 else none) else
(bif Nat.blt pc 24 then
(bif Nat.beq pc 21 then en (.getfield 12) 0 0 333 0 else none) else
(bif Nat.beq pc 24 then en (.invokevirtual 283) 67 0 499 50101 else none))))) else
(bif Nat.blt pc 38 then
(bif Nat.blt pc 31 then
(bif Nat.blt pc 30 then
(bif Nat.beq pc 27 then en (.ifCond .eq 21) 48 0 0 0 else none) else
(bif Nat.beq pc 30 then en (.aload_n 0) 0 0 0 0 else none)) else
(bif Nat.blt pc 34 then
(bif Nat.beq pc 31 then en (.getfield 19) 0 2 335 0 else none) else
(bif Nat.blt pc 35 then
(bif Nat.beq pc 34 then en (.aload_n 0) 0 0 0 0 else none) else
(bif Nat.beq pc 35 then en (.getfield 12) 0 0 333 0 else none)))) else
(bif Nat.blt pc 45 then
(bif Nat.blt pc 41 then
(bif Nat.beq pc 38 then en (.invokevirtual 286) 54 0 518 52001 else none) else
(bif Nat.blt pc 44 then
(bif Nat.beq pc 41 then en (.ifCond .eq 7) 48 0 0 0 else none) else
(bif Nat.beq pc 44 then en (.iconst 1) 0 0 0 0 else none))) else
(bif Nat.blt pc 48 then
(bif Nat.beq pc 45 then en (.goto 4) 49 0 0 0 else none) else
(bif Nat.blt pc 49 then
(bif Nat.beq pc 48 then en (.iconst 0) 0 0 0 0 else none) else
(bif Nat.beq pc 49 then en (.ireturn) 0 0 0 0 else none)))))) else none
/-- SingleTrackLine.requireFinished()V -/
def mc134 (pc : Nat) : Option En := bif Nat.blt pc 22 then (bif Nat.blt pc 7 then
(bif Nat.blt pc 1 then
(bif Nat.beq pc 0 then en (.aload_n 0) 0 0 0 0 else none) else
(bif Nat.blt pc 4 then
(bif Nat.beq pc 1 then en (.getfield 12) 0 0 333 0 else none) else
(bif Nat.beq pc 4 then en (.getfield 253) 1 8 210 0 else none))) else
(bif Nat.blt pc 10 then
(bif Nat.beq pc 7 then en (.ifCond .gt 14) 21 0 0 0 else none) else
(bif Nat.blt pc 21 then
(bif Nat.beq pc 10 then en (.new 109) 1003 100271 1017 127800113 else none) else
(bif Nat.beq pc 21 then en (.return_) 0 0 0 0 else none)))) else none
/-- SingleTrackLine.append(C)I -/
def mc135 (pc : Nat) : Option En := bif Nat.blt pc 30 then (bif Nat.blt pc 21 then
(bif Nat.blt pc 4 then
(bif Nat.blt pc 1 then
(bif Nat.beq pc 0 then en (.aload_n 0) 0 0 0 0 else none) else
(bif Nat.beq pc 1 then en (.getfield 32) 0 4 337 0 else none)) else
(bif Nat.blt pc 7 then
(bif Nat.beq pc 4 then en (.invokevirtual 290) 69 0 1323 132504 else none) else
(bif Nat.blt pc 10 then
(bif Nat.beq pc 7 then en (.ifCond .eq 14) 21 0 0 0 else none) else
(bif Nat.beq pc 10 then en (.new 104) 1002 100293 1001 132700108 else none)))) else
(bif Nat.blt pc 25 then
(bif Nat.blt pc 22 then
(bif Nat.beq pc 21 then en (.aload_n 0) 0 0 0 0 else none) else
(bif Nat.beq pc 22 then en (.getfield 32) 0 4 337 0 else none)) else
(bif Nat.blt pc 26 then
(bif Nat.beq pc 25 then en (.iload_n 1) 0 0 0 0 else none) else
(bif Nat.blt pc 29 then
(bif Nat.beq pc 26 then en (.invokevirtual 295) 70 0 1328 133004 else none) else
(bif Nat.beq pc 29 then en (.ireturn) 0 0 0 0 else none))))) else none
/-- SingleTrackLine.run()I -/
def mc136 (pc : Nat) : Option En := bif Nat.blt pc 138 then (bif Nat.blt pc 68 then
(bif Nat.blt pc 33 then
(bif Nat.blt pc 16 then
(bif Nat.blt pc 8 then
(bif Nat.blt pc 4 then
(bif Nat.blt pc 1 then
(bif Nat.beq pc 0 then en (.aload_n 0) 0 0 0 0 else none) else
(bif Nat.beq pc 1 then en (.invokevirtual 299) 139 0 1341 2500 else none)) else
(bif Nat.blt pc 5 then
(bif Nat.beq pc 4 then en (.aload_n 0) 0 0 0 0 else none) else
(bif Nat.beq pc 5 then en (.getfield 25) 0 3 336 0 else none))) else
(bif Nat.blt pc 12 then
(bif Nat.blt pc 9 then
(bif Nat.beq pc 8 then en (.aload_n 0) 0 0 0 0 else none) else
(bif Nat.beq pc 9 then en (.getfield 12) 0 0 333 0 else none)) else
(bif Nat.blt pc 15 then
(bif Nat.beq pc 12 then en (.invokevirtual 78) 30 0 938 94003 else none) else
(bif Nat.beq pc 15 then en (.aload_n 0) 0 0 0 0 else none)))) else
(bif Nat.blt pc 26 then
(bif Nat.blt pc 22 then
(bif Nat.blt pc 19 then
(bif Nat.beq pc 16 then en (.getfield 32) 0 4 337 0 else none) else
(bif Nat.beq pc 19 then en (.invokevirtual 302) 72 0 1401 135104 else none)) else
(bif Nat.blt pc 23 then
(bif Nat.beq pc 22 then en (.aload_n 0) 0 0 0 0 else none) else
(bif Nat.beq pc 23 then en (.getfield 32) 0 4 337 0 else none))) else
(bif Nat.blt pc 30 then
(bif Nat.blt pc 29 then
(bif Nat.beq pc 26 then en (.getfield 305) 4 5 282 0 else none) else
(bif Nat.beq pc 29 then en (.astore_n 1) 0 0 0 0 else none)) else
(bif Nat.blt pc 31 then
(bif Nat.beq pc 30 then en (.iconst 0) 0 0 0 0 else none) else
(bif Nat.blt pc 32 then
(bif Nat.beq pc 31 then en (.istore_n 2) 0 0 0 0 else none) else
(bif Nat.beq pc 32 then en (.iconst 0) 0 0 0 0 else none)))))) else
(bif Nat.blt pc 49 then
(bif Nat.blt pc 39 then
(bif Nat.blt pc 35 then
(bif Nat.blt pc 34 then
(bif Nat.beq pc 33 then en (.istore_n 3) 0 0 0 0 else none) else
(bif Nat.beq pc 34 then en (.iload_n 2) 0 0 0 0 else none)) else
(bif Nat.blt pc 36 then
(bif Nat.beq pc 35 then en (.aload_n 0) 0 0 0 0 else none) else
(bif Nat.beq pc 36 then en (.getfield 32) 0 4 337 0 else none))) else
(bif Nat.blt pc 45 then
(bif Nat.blt pc 42 then
(bif Nat.beq pc 39 then en (.getfield 308) 4 3 278 0 else none) else
(bif Nat.beq pc 42 then en (.if_icmp .ge 44) 86 0 0 0 else none)) else
(bif Nat.blt pc 46 then
(bif Nat.beq pc 45 then en (.iload_n 3) 0 0 0 0 else none) else
(bif Nat.beq pc 46 then en (.ifCond .lt 40) 86 0 0 0 else none)))) else
(bif Nat.blt pc 57 then
(bif Nat.blt pc 53 then
(bif Nat.blt pc 50 then
(bif Nat.beq pc 49 then en (.aload_n 0) 0 0 0 0 else none) else
(bif Nat.beq pc 50 then en (.getfield 32) 0 4 337 0 else none)) else
(bif Nat.blt pc 56 then
(bif Nat.beq pc 53 then en (.invokevirtual 311) 74 0 1402 140404 else none) else
(bif Nat.beq pc 56 then en (.aload_n 0) 0 0 0 0 else none))) else
(bif Nat.blt pc 61 then
(bif Nat.blt pc 60 then
(bif Nat.beq pc 57 then en (.getfield 12) 0 0 333 0 else none) else
(bif Nat.beq pc 60 then en (.aload_n 0) 0 0 0 0 else none)) else
(bif Nat.blt pc 64 then
(bif Nat.beq pc 61 then en (.getfield 32) 0 4 337 0 else none) else
(bif Nat.blt pc 67 then
(bif Nat.beq pc 64 then en (.getfield 314) 4 4 280 0 else none) else
(bif Nat.beq pc 67 then en (.aload_n 1) 0 0 0 0 else none))))))) else
(bif Nat.blt pc 97 then
(bif Nat.blt pc 76 then
(bif Nat.blt pc 72 then
(bif Nat.blt pc 70 then
(bif Nat.blt pc 69 then
(bif Nat.beq pc 68 then en (.iconst 0) 0 0 0 0 else none) else
(bif Nat.beq pc 69 then en (.iaload) 0 0 0 0 else none)) else
(bif Nat.blt pc 71 then
(bif Nat.beq pc 70 then en (.aload_n 1) 0 0 0 0 else none) else
(bif Nat.beq pc 71 then en (.iconst 1) 0 0 0 0 else none))) else
(bif Nat.blt pc 74 then
(bif Nat.blt pc 73 then
(bif Nat.beq pc 72 then en (.iaload) 0 0 0 0 else none) else
(bif Nat.beq pc 73 then en (.aload_n 1) 0 0 0 0 else none)) else
(bif Nat.blt pc 75 then
(bif Nat.beq pc 74 then en (.iconst 2) 0 0 0 0 else none) else
(bif Nat.beq pc 75 then en (.iaload) 0 0 0 0 else none)))) else
(bif Nat.blt pc 86 then
(bif Nat.blt pc 80 then
(bif Nat.blt pc 79 then
(bif Nat.beq pc 76 then en (.invokevirtual 82) 36 0 943 94501 else none) else
(bif Nat.beq pc 79 then en (.istore_n 3) 0 0 0 0 else none)) else
(bif Nat.blt pc 83 then
(bif Nat.beq pc 80 then en (.iinc 2 1) 0 0 0 0 else none) else
(bif Nat.beq pc 83 then en (.goto (-49)) 34 0 0 0 else none))) else
(bif Nat.blt pc 90 then
(bif Nat.blt pc 87 then
(bif Nat.beq pc 86 then en (.aload_n 0) 0 0 0 0 else none) else
(bif Nat.beq pc 87 then en (.getfield 32) 0 4 337 0 else none)) else
(bif Nat.blt pc 93 then
(bif Nat.beq pc 90 then en (.invokevirtual 317) 71 0 1396 139804 else none) else
(bif Nat.blt pc 94 then
(bif Nat.beq pc 93 then en (.iload_n 3) 0 0 0 0 else none) else
(bif Nat.beq pc 94 then en (.ifCond .ge 35) 129 0 0 0 else none)))))) else
(bif Nat.blt pc 109 then
(bif Nat.blt pc 101 then
(bif Nat.blt pc 99 then
(bif Nat.blt pc 98 then
(bif Nat.beq pc 97 then en (.aload_n 0) 0 0 0 0 else none) else
(bif Nat.beq pc 98 then en (.iload_n 2) 0 0 0 0 else none)) else
(bif Nat.blt pc 100 then
(bif Nat.beq pc 99 then en (.iconst 1) 0 0 0 0 else none) else
(bif Nat.beq pc 100 then en (.isub) 0 0 0 0 else none))) else
(bif Nat.blt pc 105 then
(bif Nat.blt pc 104 then
(bif Nat.beq pc 101 then en (.putfield 47) 0 8 341 0 else none) else
(bif Nat.beq pc 104 then en (.aload_n 0) 0 0 0 0 else none)) else
(bif Nat.blt pc 108 then
(bif Nat.beq pc 105 then en (.getfield 12) 0 0 333 0 else none) else
(bif Nat.beq pc 108 then en (.aload_n 0) 0 0 0 0 else none)))) else
(bif Nat.blt pc 129 then
(bif Nat.blt pc 115 then
(bif Nat.blt pc 112 then
(bif Nat.beq pc 109 then en (.getfield 25) 0 3 336 0 else none) else
(bif Nat.beq pc 112 then en (.invokevirtual 320) 31 0 1406 140803 else none)) else
(bif Nat.blt pc 118 then
(bif Nat.beq pc 115 then en (.invokevirtual 226) 35 0 385 38701 else none) else
(bif Nat.beq pc 118 then en (.new 324) 1005 100326 1410 141900328 else none))) else
(bif Nat.blt pc 133 then
(bif Nat.blt pc 130 then
(bif Nat.beq pc 129 then en (.aload_n 0) 0 0 0 0 else none) else
(bif Nat.beq pc 130 then en (.getfield 25) 0 3 336 0 else none)) else
(bif Nat.blt pc 136 then
(bif Nat.beq pc 133 then en (.invokevirtual 89) 32 0 1033 103503 else none) else
(bif Nat.blt pc 137 then
(bif Nat.beq pc 136 then en (.iload_n 2) 0 0 0 0 else none) else
(bif Nat.beq pc 137 then en (.ireturn) 0 0 0 0 else none)))))))) else none
/-- SingleTrackLine.errorPosition()I -/
def mc137 (pc : Nat) : Option En := bif Nat.blt pc 24 then (bif Nat.blt pc 8 then
(bif Nat.blt pc 4 then
(bif Nat.blt pc 1 then
(bif Nat.beq pc 0 then en (.aload_n 0) 0 0 0 0 else none) else
(bif Nat.beq pc 1 then en (.getfield 43) 0 7 340 0 else none)) else
(bif Nat.blt pc 5 then
(bif Nat.beq pc 4 then en (.iconst (-1)) 0 0 0 0 else none) else
(bif Nat.beq pc 5 then en (.if_icmp .ne 14) 19 0 0 0 else none))) else
(bif Nat.blt pc 20 then
(bif Nat.blt pc 19 then
(bif Nat.beq pc 8 then en (.new 109) 1003 100329 1017 143300113 else none) else
(bif Nat.beq pc 19 then en (.aload_n 0) 0 0 0 0 else none)) else
(bif Nat.blt pc 23 then
(bif Nat.beq pc 20 then en (.getfield 43) 0 7 340 0 else none) else
(bif Nat.beq pc 23 then en (.ireturn) 0 0 0 0 else none)))) else none
/-- SingleTrackLine.failedCommand()I -/
def mc138 (pc : Nat) : Option En := bif Nat.blt pc 24 then (bif Nat.blt pc 8 then
(bif Nat.blt pc 4 then
(bif Nat.blt pc 1 then
(bif Nat.beq pc 0 then en (.aload_n 0) 0 0 0 0 else none) else
(bif Nat.beq pc 1 then en (.getfield 47) 0 8 341 0 else none)) else
(bif Nat.blt pc 5 then
(bif Nat.beq pc 4 then en (.iconst (-1)) 0 0 0 0 else none) else
(bif Nat.beq pc 5 then en (.if_icmp .ne 14) 19 0 0 0 else none))) else
(bif Nat.blt pc 20 then
(bif Nat.blt pc 19 then
(bif Nat.beq pc 8 then en (.new 109) 1003 100331 1017 144100113 else none) else
(bif Nat.beq pc 19 then en (.aload_n 0) 0 0 0 0 else none)) else
(bif Nat.blt pc 23 then
(bif Nat.beq pc 20 then en (.getfield 47) 0 8 341 0 else none) else
(bif Nat.beq pc 23 then en (.ireturn) 0 0 0 0 else none)))) else none
/-- SingleTrackLine.requireProgram()V -/
def mc139 (pc : Nat) : Option En := bif Nat.blt pc 37 then (bif Nat.blt pc 13 then
(bif Nat.blt pc 7 then
(bif Nat.blt pc 1 then
(bif Nat.beq pc 0 then en (.aload_n 0) 0 0 0 0 else none) else
(bif Nat.blt pc 4 then
(bif Nat.beq pc 1 then en (.getfield 32) 0 4 337 0 else none) else
(bif Nat.beq pc 4 then en (.invokevirtual 333) 73 0 1345 134704 else none))) else
(bif Nat.blt pc 9 then
(bif Nat.blt pc 8 then
(bif Nat.beq pc 7 then en (.istore_n 1) 0 0 0 0 else none) else
(bif Nat.beq pc 8 then en (.iload_n 1) 0 0 0 0 else none)) else
(bif Nat.blt pc 10 then
(bif Nat.beq pc 9 then en (.iconst (-1)) 0 0 0 0 else none) else
(bif Nat.beq pc 10 then en (.if_icmp .eq 26) 36 0 0 0 else none)))) else
(bif Nat.blt pc 19 then
(bif Nat.blt pc 15 then
(bif Nat.blt pc 14 then
(bif Nat.beq pc 13 then en (.aload_n 0) 0 0 0 0 else none) else
(bif Nat.beq pc 14 then en (.iload_n 1) 0 0 0 0 else none)) else
(bif Nat.blt pc 18 then
(bif Nat.beq pc 15 then en (.putfield 43) 0 7 340 0 else none) else
(bif Nat.beq pc 18 then en (.aload_n 0) 0 0 0 0 else none))) else
(bif Nat.blt pc 25 then
(bif Nat.blt pc 22 then
(bif Nat.beq pc 19 then en (.getfield 32) 0 4 337 0 else none) else
(bif Nat.beq pc 22 then en (.invokevirtual 317) 71 0 1396 139804 else none)) else
(bif Nat.blt pc 36 then
(bif Nat.beq pc 25 then en (.new 99) 1001 100336 998 140000103 else none) else
(bif Nat.beq pc 36 then en (.return_) 0 0 0 0 else none))))) else none
/-- SingleTrackLine.writeLine()I -/
def mc140 (pc : Nat) : Option En := bif Nat.blt pc 51 then (bif Nat.blt pc 25 then
(bif Nat.blt pc 10 then
(bif Nat.blt pc 5 then
(bif Nat.blt pc 1 then
(bif Nat.beq pc 0 then en (.aload_n 0) 0 0 0 0 else none) else
(bif Nat.blt pc 4 then
(bif Nat.beq pc 1 then en (.getfield 39) 0 5 338 0 else none) else
(bif Nat.beq pc 4 then en (.iconst 0) 0 0 0 0 else none))) else
(bif Nat.blt pc 8 then
(bif Nat.beq pc 5 then en (.invokevirtual 338) 22 0 540 54206 else none) else
(bif Nat.blt pc 9 then
(bif Nat.beq pc 8 then en (.iconst 0) 0 0 0 0 else none) else
(bif Nat.beq pc 9 then en (.istore_n 1) 0 0 0 0 else none)))) else
(bif Nat.blt pc 15 then
(bif Nat.blt pc 11 then
(bif Nat.beq pc 10 then en (.iload_n 1) 0 0 0 0 else none) else
(bif Nat.blt pc 12 then
(bif Nat.beq pc 11 then en (.aload_n 0) 0 0 0 0 else none) else
(bif Nat.beq pc 12 then en (.getfield 12) 0 0 333 0 else none))) else
(bif Nat.blt pc 21 then
(bif Nat.blt pc 18 then
(bif Nat.beq pc 15 then en (.getfield 114) 1 0 196 0 else none) else
(bif Nat.beq pc 18 then en (.if_icmp .ge 25) 43 0 0 0 else none)) else
(bif Nat.blt pc 22 then
(bif Nat.beq pc 21 then en (.iload_n 1) 0 0 0 0 else none) else
(bif Nat.beq pc 22 then en (.ifCond .le 10) 32 0 0 0 else none))))) else
(bif Nat.blt pc 34 then
(bif Nat.blt pc 28 then
(bif Nat.blt pc 26 then
(bif Nat.beq pc 25 then en (.aload_n 0) 0 0 0 0 else none) else
(bif Nat.blt pc 27 then
(bif Nat.beq pc 26 then en (.iload_n 1) 0 0 0 0 else none) else
(bif Nat.beq pc 27 then en (.iconst 1) 0 0 0 0 else none))) else
(bif Nat.blt pc 32 then
(bif Nat.blt pc 29 then
(bif Nat.beq pc 28 then en (.isub) 0 0 0 0 else none) else
(bif Nat.beq pc 29 then en (.invokevirtual 341) 144 0 881 1100 else none)) else
(bif Nat.blt pc 33 then
(bif Nat.beq pc 32 then en (.aload_n 0) 0 0 0 0 else none) else
(bif Nat.beq pc 33 then en (.iload_n 1) 0 0 0 0 else none)))) else
(bif Nat.blt pc 43 then
(bif Nat.blt pc 37 then
(bif Nat.beq pc 34 then en (.invokevirtual 344) 143 0 910 1200 else none) else
(bif Nat.blt pc 40 then
(bif Nat.beq pc 37 then en (.iinc 1 1) 0 0 0 0 else none) else
(bif Nat.beq pc 40 then en (.goto (-30)) 10 0 0 0 else none))) else
(bif Nat.blt pc 47 then
(bif Nat.blt pc 44 then
(bif Nat.beq pc 43 then en (.aload_n 0) 0 0 0 0 else none) else
(bif Nat.beq pc 44 then en (.getfield 39) 0 5 338 0 else none)) else
(bif Nat.blt pc 50 then
(bif Nat.beq pc 47 then en (.invokevirtual 347) 23 0 918 196406 else none) else
(bif Nat.beq pc 50 then en (.ireturn) 0 0 0 0 else none)))))) else none
/-- SingleTrackLine.writeTrain(I)I -/
def mc141 (pc : Nat) : Option En := bif Nat.blt pc 121 then (bif Nat.blt pc 59 then
(bif Nat.blt pc 27 then
(bif Nat.blt pc 11 then
(bif Nat.blt pc 5 then
(bif Nat.blt pc 1 then
(bif Nat.beq pc 0 then en (.aload_n 0) 0 0 0 0 else none) else
(bif Nat.blt pc 2 then
(bif Nat.beq pc 1 then en (.iload_n 1) 0 0 0 0 else none) else
(bif Nat.beq pc 2 then en (.invokevirtual 174) 124 0 1176 2200 else none))) else
(bif Nat.blt pc 7 then
(bif Nat.blt pc 6 then
(bif Nat.beq pc 5 then en (.astore_n 2) 0 0 0 0 else none) else
(bif Nat.beq pc 6 then en (.aload_n 0) 0 0 0 0 else none)) else
(bif Nat.blt pc 10 then
(bif Nat.beq pc 7 then en (.getfield 39) 0 5 338 0 else none) else
(bif Nat.beq pc 10 then en (.iconst 0) 0 0 0 0 else none)))) else
(bif Nat.blt pc 18 then
(bif Nat.blt pc 14 then
(bif Nat.beq pc 11 then en (.invokevirtual 338) 22 0 540 54206 else none) else
(bif Nat.blt pc 15 then
(bif Nat.beq pc 14 then en (.aload_n 0) 0 0 0 0 else none) else
(bif Nat.beq pc 15 then en (.getfield 39) 0 5 338 0 else none))) else
(bif Nat.blt pc 22 then
(bif Nat.blt pc 19 then
(bif Nat.beq pc 18 then en (.aload_n 2) 0 0 0 0 else none) else
(bif Nat.beq pc 19 then en (.getfield 150) 2 1 139 0 else none)) else
(bif Nat.blt pc 25 then
(bif Nat.beq pc 22 then en (.invokevirtual 350) 20 0 909 67106 else none) else
(bif Nat.beq pc 25 then en (.bipush 58) 0 0 0 0 else none))))) else
(bif Nat.blt pc 42 then
(bif Nat.blt pc 34 then
(bif Nat.blt pc 30 then
(bif Nat.beq pc 27 then en (.invokevirtual 354) 19 0 886 88806 else none) else
(bif Nat.blt pc 31 then
(bif Nat.beq pc 30 then en (.aload_n 2) 0 0 0 0 else none) else
(bif Nat.beq pc 31 then en (.getfield 357) 2 2 142 0 else none))) else
(bif Nat.blt pc 38 then
(bif Nat.blt pc 37 then
(bif Nat.beq pc 34 then en (.invokevirtual 350) 20 0 909 67106 else none) else
(bif Nat.beq pc 37 then en (.pop) 0 0 0 0 else none)) else
(bif Nat.blt pc 39 then
(bif Nat.beq pc 38 then en (.aload_n 0) 0 0 0 0 else none) else
(bif Nat.beq pc 39 then en (.getfield 39) 0 5 338 0 else none)))) else
(bif Nat.blt pc 51 then
(bif Nat.blt pc 47 then
(bif Nat.blt pc 44 then
(bif Nat.beq pc 42 then en (.bipush 62) 0 0 0 0 else none) else
(bif Nat.beq pc 44 then en (.invokevirtual 354) 19 0 886 88806 else none)) else
(bif Nat.blt pc 48 then
(bif Nat.beq pc 47 then en (.aload_n 2) 0 0 0 0 else none) else
(bif Nat.beq pc 48 then en (.getfield 360) 2 3 145 0 else none))) else
(bif Nat.blt pc 55 then
(bif Nat.blt pc 54 then
(bif Nat.beq pc 51 then en (.invokevirtual 350) 20 0 909 67106 else none) else
(bif Nat.beq pc 54 then en (.pop) 0 0 0 0 else none)) else
(bif Nat.blt pc 56 then
(bif Nat.beq pc 55 then en (.aload_n 0) 0 0 0 0 else none) else
(bif Nat.beq pc 56 then en (.getfield 39) 0 5 338 0 else none)))))) else
(bif Nat.blt pc 89 then
(bif Nat.blt pc 73 then
(bif Nat.blt pc 65 then
(bif Nat.blt pc 61 then
(bif Nat.beq pc 59 then en (.bipush 64) 0 0 0 0 else none) else
(bif Nat.blt pc 64 then
(bif Nat.beq pc 61 then en (.invokevirtual 354) 19 0 886 88806 else none) else
(bif Nat.beq pc 64 then en (.aload_n 2) 0 0 0 0 else none))) else
(bif Nat.blt pc 71 then
(bif Nat.blt pc 68 then
(bif Nat.beq pc 65 then en (.getfield 363) 2 4 148 0 else none) else
(bif Nat.beq pc 68 then en (.invokevirtual 350) 20 0 909 67106 else none)) else
(bif Nat.blt pc 72 then
(bif Nat.beq pc 71 then en (.pop) 0 0 0 0 else none) else
(bif Nat.beq pc 72 then en (.aload_n 2) 0 0 0 0 else none)))) else
(bif Nat.blt pc 80 then
(bif Nat.blt pc 76 then
(bif Nat.beq pc 73 then en (.getfield 186) 2 9 163 0 else none) else
(bif Nat.blt pc 79 then
(bif Nat.beq pc 76 then en (.ifCond .eq 13) 89 0 0 0 else none) else
(bif Nat.beq pc 79 then en (.aload_n 0) 0 0 0 0 else none))) else
(bif Nat.blt pc 85 then
(bif Nat.blt pc 83 then
(bif Nat.beq pc 80 then en (.getfield 39) 0 5 338 0 else none) else
(bif Nat.beq pc 83 then en (.bipush 33) 0 0 0 0 else none)) else
(bif Nat.blt pc 88 then
(bif Nat.beq pc 85 then en (.invokevirtual 354) 19 0 886 88806 else none) else
(bif Nat.beq pc 88 then en (.pop) 0 0 0 0 else none))))) else
(bif Nat.blt pc 105 then
(bif Nat.blt pc 96 then
(bif Nat.blt pc 90 then
(bif Nat.beq pc 89 then en (.aload_n 2) 0 0 0 0 else none) else
(bif Nat.blt pc 93 then
(bif Nat.beq pc 90 then en (.getfield 207) 2 10 166 0 else none) else
(bif Nat.beq pc 93 then en (.ifCond .eq 20) 113 0 0 0 else none))) else
(bif Nat.blt pc 100 then
(bif Nat.blt pc 97 then
(bif Nat.beq pc 96 then en (.aload_n 0) 0 0 0 0 else none) else
(bif Nat.beq pc 97 then en (.getfield 39) 0 5 338 0 else none)) else
(bif Nat.blt pc 102 then
(bif Nat.beq pc 100 then en (.bipush 43) 0 0 0 0 else none) else
(bif Nat.beq pc 102 then en (.invokevirtual 354) 19 0 886 88806 else none)))) else
(bif Nat.blt pc 113 then
(bif Nat.blt pc 109 then
(bif Nat.blt pc 106 then
(bif Nat.beq pc 105 then en (.aload_n 2) 0 0 0 0 else none) else
(bif Nat.beq pc 106 then en (.getfield 207) 2 10 166 0 else none)) else
(bif Nat.blt pc 112 then
(bif Nat.beq pc 109 then en (.invokevirtual 350) 20 0 909 67106 else none) else
(bif Nat.beq pc 112 then en (.pop) 0 0 0 0 else none))) else
(bif Nat.blt pc 117 then
(bif Nat.blt pc 114 then
(bif Nat.beq pc 113 then en (.aload_n 0) 0 0 0 0 else none) else
(bif Nat.beq pc 114 then en (.getfield 39) 0 5 338 0 else none)) else
(bif Nat.blt pc 120 then
(bif Nat.beq pc 117 then en (.invokevirtual 347) 23 0 918 196406 else none) else
(bif Nat.beq pc 120 then en (.ireturn) 0 0 0 0 else none))))))) else none
/-- SingleTrackLine.outputAt(I)C -/
def mc142 (pc : Nat) : Option En := bif Nat.blt pc 35 then (bif Nat.blt pc 12 then
(bif Nat.blt pc 5 then
(bif Nat.blt pc 1 then
(bif Nat.beq pc 0 then en (.iload_n 1) 0 0 0 0 else none) else
(bif Nat.blt pc 4 then
(bif Nat.beq pc 1 then en (.ifCond .lt 14) 15 0 0 0 else none) else
(bif Nat.beq pc 4 then en (.iload_n 1) 0 0 0 0 else none))) else
(bif Nat.blt pc 6 then
(bif Nat.beq pc 5 then en (.aload_n 0) 0 0 0 0 else none) else
(bif Nat.blt pc 9 then
(bif Nat.beq pc 6 then en (.getfield 39) 0 5 338 0 else none) else
(bif Nat.beq pc 9 then en (.invokevirtual 347) 23 0 918 196406 else none)))) else
(bif Nat.blt pc 27 then
(bif Nat.blt pc 15 then
(bif Nat.beq pc 12 then en (.if_icmp .lt 14) 26 0 0 0 else none) else
(bif Nat.blt pc 26 then
(bif Nat.beq pc 15 then en (.new 92) 1000 100366 985 145600096 else none) else
(bif Nat.beq pc 26 then en (.aload_n 0) 0 0 0 0 else none))) else
(bif Nat.blt pc 31 then
(bif Nat.blt pc 30 then
(bif Nat.beq pc 27 then en (.getfield 39) 0 5 338 0 else none) else
(bif Nat.beq pc 30 then en (.iload_n 1) 0 0 0 0 else none)) else
(bif Nat.blt pc 34 then
(bif Nat.beq pc 31 then en (.invokevirtual 368) 21 0 1457 145906 else none) else
(bif Nat.beq pc 34 then en (.ireturn) 0 0 0 0 else none))))) else none
/-- SingleTrackLine.writeStation(I)V -/
def mc143 (pc : Nat) : Option En := bif Nat.blt pc 95 then (bif Nat.blt pc 43 then
(bif Nat.blt pc 21 then
(bif Nat.blt pc 11 then
(bif Nat.blt pc 6 then
(bif Nat.blt pc 1 then
(bif Nat.beq pc 0 then en (.aload_n 0) 0 0 0 0 else none) else
(bif Nat.blt pc 4 then
(bif Nat.beq pc 1 then en (.getfield 39) 0 5 338 0 else none) else
(bif Nat.beq pc 4 then en (.bipush 91) 0 0 0 0 else none))) else
(bif Nat.blt pc 9 then
(bif Nat.beq pc 6 then en (.invokevirtual 354) 19 0 886 88806 else none) else
(bif Nat.blt pc 10 then
(bif Nat.beq pc 9 then en (.pop) 0 0 0 0 else none) else
(bif Nat.beq pc 10 then en (.iconst 1) 0 0 0 0 else none)))) else
(bif Nat.blt pc 16 then
(bif Nat.blt pc 12 then
(bif Nat.beq pc 11 then en (.istore_n 2) 0 0 0 0 else none) else
(bif Nat.blt pc 13 then
(bif Nat.beq pc 12 then en (.aload_n 0) 0 0 0 0 else none) else
(bif Nat.beq pc 13 then en (.getfield 12) 0 0 333 0 else none))) else
(bif Nat.blt pc 19 then
(bif Nat.beq pc 16 then en (.getfield 128) 1 4 203 0 else none) else
(bif Nat.blt pc 20 then
(bif Nat.beq pc 19 then en (.astore_n 3) 0 0 0 0 else none) else
(bif Nat.beq pc 20 then en (.aload_n 3) 0 0 0 0 else none))))) else
(bif Nat.blt pc 31 then
(bif Nat.blt pc 25 then
(bif Nat.blt pc 22 then
(bif Nat.beq pc 21 then en (.arraylength) 0 0 0 0 else none) else
(bif Nat.blt pc 24 then
(bif Nat.beq pc 22 then en (.istore 4) 0 0 0 0 else none) else
(bif Nat.beq pc 24 then en (.iconst 0) 0 0 0 0 else none))) else
(bif Nat.blt pc 27 then
(bif Nat.beq pc 25 then en (.istore 5) 0 0 0 0 else none) else
(bif Nat.blt pc 29 then
(bif Nat.beq pc 27 then en (.iload 5) 0 0 0 0 else none) else
(bif Nat.beq pc 29 then en (.iload 4) 0 0 0 0 else none)))) else
(bif Nat.blt pc 37 then
(bif Nat.blt pc 34 then
(bif Nat.beq pc 31 then en (.if_icmp .ge 53) 84 0 0 0 else none) else
(bif Nat.blt pc 35 then
(bif Nat.beq pc 34 then en (.aload_n 3) 0 0 0 0 else none) else
(bif Nat.beq pc 35 then en (.iload 5) 0 0 0 0 else none))) else
(bif Nat.blt pc 40 then
(bif Nat.blt pc 38 then
(bif Nat.beq pc 37 then en (.aaload) 0 0 0 0 else none) else
(bif Nat.beq pc 38 then en (.astore 6) 0 0 0 0 else none)) else
(bif Nat.blt pc 42 then
(bif Nat.beq pc 40 then en (.aload 6) 0 0 0 0 else none) else
(bif Nat.beq pc 42 then en (.iload_n 1) 0 0 0 0 else none)))))) else
(bif Nat.blt pc 69 then
(bif Nat.blt pc 57 then
(bif Nat.blt pc 50 then
(bif Nat.blt pc 46 then
(bif Nat.beq pc 43 then en (.invokevirtual 132) 83 0 914 91602 else none) else
(bif Nat.blt pc 49 then
(bif Nat.beq pc 46 then en (.ifCond .eq 32) 78 0 0 0 else none) else
(bif Nat.beq pc 49 then en (.iload_n 2) 0 0 0 0 else none))) else
(bif Nat.blt pc 53 then
(bif Nat.beq pc 50 then en (.ifCond .ne 13) 63 0 0 0 else none) else
(bif Nat.blt pc 54 then
(bif Nat.beq pc 53 then en (.aload_n 0) 0 0 0 0 else none) else
(bif Nat.beq pc 54 then en (.getfield 39) 0 5 338 0 else none)))) else
(bif Nat.blt pc 63 then
(bif Nat.blt pc 59 then
(bif Nat.beq pc 57 then en (.bipush 44) 0 0 0 0 else none) else
(bif Nat.blt pc 62 then
(bif Nat.beq pc 59 then en (.invokevirtual 354) 19 0 886 88806 else none) else
(bif Nat.beq pc 62 then en (.pop) 0 0 0 0 else none))) else
(bif Nat.blt pc 64 then
(bif Nat.beq pc 63 then en (.aload_n 0) 0 0 0 0 else none) else
(bif Nat.blt pc 67 then
(bif Nat.beq pc 64 then en (.getfield 39) 0 5 338 0 else none) else
(bif Nat.beq pc 67 then en (.aload 6) 0 0 0 0 else none))))) else
(bif Nat.blt pc 81 then
(bif Nat.blt pc 76 then
(bif Nat.blt pc 72 then
(bif Nat.beq pc 69 then en (.getfield 150) 2 1 139 0 else none) else
(bif Nat.blt pc 75 then
(bif Nat.beq pc 72 then en (.invokevirtual 350) 20 0 909 67106 else none) else
(bif Nat.beq pc 75 then en (.pop) 0 0 0 0 else none))) else
(bif Nat.blt pc 77 then
(bif Nat.beq pc 76 then en (.iconst 0) 0 0 0 0 else none) else
(bif Nat.blt pc 78 then
(bif Nat.beq pc 77 then en (.istore_n 2) 0 0 0 0 else none) else
(bif Nat.beq pc 78 then en (.iinc 5 1) 0 0 0 0 else none)))) else
(bif Nat.blt pc 88 then
(bif Nat.blt pc 84 then
(bif Nat.beq pc 81 then en (.goto (-54)) 27 0 0 0 else none) else
(bif Nat.blt pc 85 then
(bif Nat.beq pc 84 then en (.aload_n 0) 0 0 0 0 else none) else
(bif Nat.beq pc 85 then en (.getfield 39) 0 5 338 0 else none))) else
(bif Nat.blt pc 93 then
(bif Nat.blt pc 90 then
(bif Nat.beq pc 88 then en (.bipush 93) 0 0 0 0 else none) else
(bif Nat.beq pc 90 then en (.invokevirtual 354) 19 0 886 88806 else none)) else
(bif Nat.blt pc 94 then
(bif Nat.beq pc 93 then en (.pop) 0 0 0 0 else none) else
(bif Nat.beq pc 94 then en (.return_) 0 0 0 0 else none))))))) else none
/-- SingleTrackLine.writeSection(I)V -/
def mc144 (pc : Nat) : Option En := bif Nat.blt pc 56 then (bif Nat.blt pc 26 then
(bif Nat.blt pc 10 then
(bif Nat.blt pc 5 then
(bif Nat.blt pc 1 then
(bif Nat.beq pc 0 then en (.aload_n 0) 0 0 0 0 else none) else
(bif Nat.blt pc 4 then
(bif Nat.beq pc 1 then en (.getfield 12) 0 0 333 0 else none) else
(bif Nat.beq pc 4 then en (.iload_n 1) 0 0 0 0 else none))) else
(bif Nat.blt pc 8 then
(bif Nat.beq pc 5 then en (.invokevirtual 144) 59 0 885 41001 else none) else
(bif Nat.blt pc 9 then
(bif Nat.beq pc 8 then en (.astore_n 2) 0 0 0 0 else none) else
(bif Nat.beq pc 9 then en (.aload_n 2) 0 0 0 0 else none)))) else
(bif Nat.blt pc 17 then
(bif Nat.blt pc 13 then
(bif Nat.beq pc 10 then en (.ifnonnull 16) 26 0 0 0 else none) else
(bif Nat.blt pc 14 then
(bif Nat.beq pc 13 then en (.aload_n 0) 0 0 0 0 else none) else
(bif Nat.beq pc 14 then en (.getfield 39) 0 5 338 0 else none))) else
(bif Nat.blt pc 22 then
(bif Nat.blt pc 19 then
(bif Nat.beq pc 17 then en (.bipush 45) 0 0 0 0 else none) else
(bif Nat.beq pc 19 then en (.invokevirtual 354) 19 0 886 88806 else none)) else
(bif Nat.blt pc 23 then
(bif Nat.beq pc 22 then en (.pop) 0 0 0 0 else none) else
(bif Nat.beq pc 23 then en (.goto 32) 55 0 0 0 else none))))) else
(bif Nat.blt pc 42 then
(bif Nat.blt pc 31 then
(bif Nat.blt pc 27 then
(bif Nat.beq pc 26 then en (.aload_n 0) 0 0 0 0 else none) else
(bif Nat.blt pc 30 then
(bif Nat.beq pc 27 then en (.getfield 39) 0 5 338 0 else none) else
(bif Nat.beq pc 30 then en (.aload_n 2) 0 0 0 0 else none))) else
(bif Nat.blt pc 37 then
(bif Nat.blt pc 34 then
(bif Nat.beq pc 31 then en (.invokevirtual 372) 84 0 908 46102 else none) else
(bif Nat.beq pc 34 then en (.ifCond .le 8) 42 0 0 0 else none)) else
(bif Nat.blt pc 39 then
(bif Nat.beq pc 37 then en (.bipush 62) 0 0 0 0 else none) else
(bif Nat.beq pc 39 then en (.goto 5) 44 0 0 0 else none)))) else
(bif Nat.blt pc 48 then
(bif Nat.blt pc 44 then
(bif Nat.beq pc 42 then en (.bipush 60) 0 0 0 0 else none) else
(bif Nat.blt pc 47 then
(bif Nat.beq pc 44 then en (.invokevirtual 354) 19 0 886 88806 else none) else
(bif Nat.beq pc 47 then en (.aload_n 2) 0 0 0 0 else none))) else
(bif Nat.blt pc 54 then
(bif Nat.blt pc 51 then
(bif Nat.beq pc 48 then en (.getfield 150) 2 1 139 0 else none) else
(bif Nat.beq pc 51 then en (.invokevirtual 350) 20 0 909 67106 else none)) else
(bif Nat.blt pc 55 then
(bif Nat.beq pc 54 then en (.pop) 0 0 0 0 else none) else
(bif Nat.beq pc 55 then en (.return_) 0 0 0 0 else none)))))) else none
/-- SingleTrackLine.undo()I -/
def mc145 (pc : Nat) : Option En := bif Nat.blt pc 43 then (bif Nat.blt pc 25 then
(bif Nat.blt pc 7 then
(bif Nat.blt pc 1 then
(bif Nat.beq pc 0 then en (.aload_n 0) 0 0 0 0 else none) else
(bif Nat.blt pc 4 then
(bif Nat.beq pc 1 then en (.getfield 25) 0 3 336 0 else none) else
(bif Nat.beq pc 4 then en (.getfield 375) 3 2 258 0 else none))) else
(bif Nat.blt pc 21 then
(bif Nat.blt pc 10 then
(bif Nat.beq pc 7 then en (.ifCond .gt 14) 21 0 0 0 else none) else
(bif Nat.beq pc 10 then en (.new 104) 1002 100378 1001 147400108 else none)) else
(bif Nat.blt pc 22 then
(bif Nat.beq pc 21 then en (.aload_n 0) 0 0 0 0 else none) else
(bif Nat.beq pc 22 then en (.getfield 12) 0 0 333 0 else none)))) else
(bif Nat.blt pc 35 then
(bif Nat.blt pc 29 then
(bif Nat.blt pc 26 then
(bif Nat.beq pc 25 then en (.aload_n 0) 0 0 0 0 else none) else
(bif Nat.beq pc 26 then en (.getfield 25) 0 3 336 0 else none)) else
(bif Nat.blt pc 32 then
(bif Nat.beq pc 29 then en (.invokevirtual 380) 33 0 1475 147703 else none) else
(bif Nat.beq pc 32 then en (.invokevirtual 226) 35 0 385 38701 else none))) else
(bif Nat.blt pc 39 then
(bif Nat.blt pc 36 then
(bif Nat.beq pc 35 then en (.aload_n 0) 0 0 0 0 else none) else
(bif Nat.beq pc 36 then en (.getfield 25) 0 3 336 0 else none)) else
(bif Nat.blt pc 42 then
(bif Nat.beq pc 39 then en (.getfield 375) 3 2 258 0 else none) else
(bif Nat.beq pc 42 then en (.ireturn) 0 0 0 0 else none))))) else none
/-- SingleTrackLine.save()V -/
def mc146 (pc : Nat) : Option En := bif Nat.blt pc 17 then (bif Nat.blt pc 8 then
(bif Nat.blt pc 4 then
(bif Nat.blt pc 1 then
(bif Nat.beq pc 0 then en (.aload_n 0) 0 0 0 0 else none) else
(bif Nat.beq pc 1 then en (.getfield 16) 0 1 334 0 else none)) else
(bif Nat.blt pc 5 then
(bif Nat.beq pc 4 then en (.aload_n 0) 0 0 0 0 else none) else
(bif Nat.beq pc 5 then en (.getfield 12) 0 0 333 0 else none))) else
(bif Nat.blt pc 12 then
(bif Nat.blt pc 11 then
(bif Nat.beq pc 8 then en (.invokevirtual 226) 35 0 385 38701 else none) else
(bif Nat.beq pc 11 then en (.aload_n 0) 0 0 0 0 else none)) else
(bif Nat.blt pc 13 then
(bif Nat.beq pc 12 then en (.iconst 1) 0 0 0 0 else none) else
(bif Nat.blt pc 16 then
(bif Nat.beq pc 13 then en (.putfield 383) 0 6 339 0 else none) else
(bif Nat.beq pc 16 then en (.return_) 0 0 0 0 else none))))) else none
/-- SingleTrackLine.restore()V -/
def mc147 (pc : Nat) : Option En := bif Nat.blt pc 38 then (bif Nat.blt pc 23 then
(bif Nat.blt pc 7 then
(bif Nat.blt pc 1 then
(bif Nat.beq pc 0 then en (.aload_n 0) 0 0 0 0 else none) else
(bif Nat.blt pc 4 then
(bif Nat.beq pc 1 then en (.getfield 383) 0 6 339 0 else none) else
(bif Nat.beq pc 4 then en (.ifCond .ne 14) 18 0 0 0 else none))) else
(bif Nat.blt pc 19 then
(bif Nat.blt pc 18 then
(bif Nat.beq pc 7 then en (.new 104) 1002 100386 1001 148600108 else none) else
(bif Nat.beq pc 18 then en (.aload_n 0) 0 0 0 0 else none)) else
(bif Nat.blt pc 22 then
(bif Nat.beq pc 19 then en (.getfield 12) 0 0 333 0 else none) else
(bif Nat.beq pc 22 then en (.aload_n 0) 0 0 0 0 else none)))) else
(bif Nat.blt pc 30 then
(bif Nat.blt pc 26 then
(bif Nat.beq pc 23 then en (.getfield 16) 0 1 334 0 else none) else
(bif Nat.blt pc 29 then
(bif Nat.beq pc 26 then en (.invokevirtual 226) 35 0 385 38701 else none) else
(bif Nat.beq pc 29 then en (.aload_n 0) 0 0 0 0 else none))) else
(bif Nat.blt pc 34 then
(bif Nat.blt pc 33 then
(bif Nat.beq pc 30 then en (.getfield 25) 0 3 336 0 else none) else
(bif Nat.beq pc 33 then en (.iconst 0) 0 0 0 0 else none)) else
(bif Nat.blt pc 37 then
(bif Nat.beq pc 34 then en (.putfield 375) 3 2 258 0 else none) else
(bif Nat.beq pc 37 then en (.return_) 0 0 0 0 else none))))) else none
/-- SingleTrackLineModel.<init>()V -/
def mc148 (pc : Nat) : Option En := bif Nat.blt pc 386 then (bif Nat.blt pc 197 then
(bif Nat.blt pc 105 then
(bif Nat.blt pc 60 then
(bif Nat.blt pc 29 then
(bif Nat.blt pc 13 then
(bif Nat.blt pc 5 then
(bif Nat.blt pc 1 then
(bif Nat.beq pc 0 then en (.aload_n 0) 0 0 0 0 else none) else
(bif Nat.blt pc 4 then
(bif Nat.beq pc 1 then en (.invokespecial 1) 0 7 1492 0 else none) else
(bif Nat.beq pc 4 then en (.aload_n 0) 0 0 0 0 else none))) else
(bif Nat.blt pc 9 then
(bif Nat.blt pc 7 then
(bif Nat.beq pc 5 then en (.bipush 76) 0 0 0 0 else none) else
(bif Nat.beq pc 7 then en (.newarray .int) 0 0 0 0 else none)) else
(bif Nat.blt pc 12 then
(bif Nat.beq pc 9 then en (.putfield 9) 5 0 1493 0 else none) else
(bif Nat.beq pc 12 then en (.aload_n 0) 0 0 0 0 else none)))) else
(bif Nat.blt pc 21 then
(bif Nat.blt pc 17 then
(bif Nat.blt pc 15 then
(bif Nat.beq pc 13 then en (.bipush 76) 0 0 0 0 else none) else
(bif Nat.beq pc 15 then en (.newarray .int) 0 0 0 0 else none)) else
(bif Nat.blt pc 20 then
(bif Nat.beq pc 17 then en (.putfield 13) 5 1 1494 0 else none) else
(bif Nat.beq pc 20 then en (.aload_n 0) 0 0 0 0 else none))) else
(bif Nat.blt pc 25 then
(bif Nat.blt pc 23 then
(bif Nat.beq pc 21 then en (.bipush 76) 0 0 0 0 else none) else
(bif Nat.beq pc 23 then en (.newarray .int) 0 0 0 0 else none)) else
(bif Nat.blt pc 28 then
(bif Nat.beq pc 25 then en (.putfield 16) 5 2 1495 0 else none) else
(bif Nat.beq pc 28 then en (.aload_n 0) 0 0 0 0 else none))))) else
(bif Nat.blt pc 46 then
(bif Nat.blt pc 37 then
(bif Nat.blt pc 33 then
(bif Nat.blt pc 31 then
(bif Nat.beq pc 29 then en (.bipush 76) 0 0 0 0 else none) else
(bif Nat.beq pc 31 then en (.newarray .int) 0 0 0 0 else none)) else
(bif Nat.blt pc 36 then
(bif Nat.beq pc 33 then en (.putfield 19) 5 3 1496 0 else none) else
(bif Nat.beq pc 36 then en (.aload_n 0) 0 0 0 0 else none))) else
(bif Nat.blt pc 42 then
(bif Nat.blt pc 40 then
(bif Nat.beq pc 37 then en (.sipush 608) 0 0 0 0 else none) else
(bif Nat.beq pc 40 then en (.newarray .int) 0 0 0 0 else none)) else
(bif Nat.blt pc 45 then
(bif Nat.beq pc 42 then en (.putfield 22) 5 5 1498 0 else none) else
(bif Nat.beq pc 45 then en (.aload_n 0) 0 0 0 0 else none)))) else
(bif Nat.blt pc 52 then
(bif Nat.blt pc 50 then
(bif Nat.blt pc 47 then
(bif Nat.beq pc 46 then en (.iconst (-1)) 0 0 0 0 else none) else
(bif Nat.beq pc 47 then en (.putfield 25) 5 7 1500 0 else none)) else
(bif Nat.blt pc 51 then
(bif Nat.beq pc 50 then en (.aload_n 0) 0 0 0 0 else none) else
(bif Nat.beq pc 51 then en (.iconst (-1)) 0 0 0 0 else none))) else
(bif Nat.blt pc 56 then
(bif Nat.blt pc 55 then
(bif Nat.beq pc 52 then en (.putfield 29) 5 8 1501 0 else none) else
(bif Nat.beq pc 55 then en (.aload_n 0) 0 0 0 0 else none)) else
(bif Nat.blt pc 58 then
(bif Nat.beq pc 56 then en (.bipush 60) 0 0 0 0 else none) else
(bif Nat.beq pc 58 then en (.newarray .int) 0 0 0 0 else none)))))) else
(bif Nat.blt pc 85 then
(bif Nat.blt pc 74 then
(bif Nat.blt pc 66 then
(bif Nat.blt pc 63 then
(bif Nat.beq pc 60 then en (.putfield 32) 5 10 1503 0 else none) else
(bif Nat.blt pc 64 then
(bif Nat.beq pc 63 then en (.aload_n 0) 0 0 0 0 else none) else
(bif Nat.beq pc 64 then en (.bipush 12) 0 0 0 0 else none))) else
(bif Nat.blt pc 71 then
(bif Nat.blt pc 68 then
(bif Nat.beq pc 66 then en (.newarray .int) 0 0 0 0 else none) else
(bif Nat.beq pc 68 then en (.putfield 35) 5 12 1505 0 else none)) else
(bif Nat.blt pc 72 then
(bif Nat.beq pc 71 then en (.aload_n 0) 0 0 0 0 else none) else
(bif Nat.beq pc 72 then en (.bipush 41) 0 0 0 0 else none)))) else
(bif Nat.blt pc 80 then
(bif Nat.blt pc 77 then
(bif Nat.blt pc 76 then
(bif Nat.beq pc 74 then en (.newarray .char) 0 0 0 0 else none) else
(bif Nat.beq pc 76 then en (.dup) 0 0 0 0 else none)) else
(bif Nat.blt pc 78 then
(bif Nat.beq pc 77 then en (.iconst 0) 0 0 0 0 else none) else
(bif Nat.beq pc 78 then en (.bipush 115) 0 0 0 0 else none))) else
(bif Nat.blt pc 82 then
(bif Nat.blt pc 81 then
(bif Nat.beq pc 80 then en (.castore) 0 0 0 0 else none) else
(bif Nat.beq pc 81 then en (.dup) 0 0 0 0 else none)) else
(bif Nat.blt pc 83 then
(bif Nat.beq pc 82 then en (.iconst 1) 0 0 0 0 else none) else
(bif Nat.beq pc 83 then en (.bipush 116) 0 0 0 0 else none))))) else
(bif Nat.blt pc 95 then
(bif Nat.blt pc 90 then
(bif Nat.blt pc 87 then
(bif Nat.blt pc 86 then
(bif Nat.beq pc 85 then en (.castore) 0 0 0 0 else none) else
(bif Nat.beq pc 86 then en (.dup) 0 0 0 0 else none)) else
(bif Nat.blt pc 88 then
(bif Nat.beq pc 87 then en (.iconst 2) 0 0 0 0 else none) else
(bif Nat.beq pc 88 then en (.bipush 97) 0 0 0 0 else none))) else
(bif Nat.blt pc 92 then
(bif Nat.blt pc 91 then
(bif Nat.beq pc 90 then en (.castore) 0 0 0 0 else none) else
(bif Nat.beq pc 91 then en (.dup) 0 0 0 0 else none)) else
(bif Nat.blt pc 93 then
(bif Nat.beq pc 92 then en (.iconst 3) 0 0 0 0 else none) else
(bif Nat.beq pc 93 then en (.bipush 116) 0 0 0 0 else none)))) else
(bif Nat.blt pc 100 then
(bif Nat.blt pc 97 then
(bif Nat.blt pc 96 then
(bif Nat.beq pc 95 then en (.castore) 0 0 0 0 else none) else
(bif Nat.beq pc 96 then en (.dup) 0 0 0 0 else none)) else
(bif Nat.blt pc 98 then
(bif Nat.beq pc 97 then en (.iconst 4) 0 0 0 0 else none) else
(bif Nat.beq pc 98 then en (.bipush 105) 0 0 0 0 else none))) else
(bif Nat.blt pc 102 then
(bif Nat.blt pc 101 then
(bif Nat.beq pc 100 then en (.castore) 0 0 0 0 else none) else
(bif Nat.beq pc 101 then en (.dup) 0 0 0 0 else none)) else
(bif Nat.blt pc 103 then
(bif Nat.beq pc 102 then en (.iconst 5) 0 0 0 0 else none) else
(bif Nat.beq pc 103 then en (.bipush 111) 0 0 0 0 else none))))))) else
(bif Nat.blt pc 151 then
(bif Nat.blt pc 127 then
(bif Nat.blt pc 115 then
(bif Nat.blt pc 109 then
(bif Nat.blt pc 106 then
(bif Nat.beq pc 105 then en (.castore) 0 0 0 0 else none) else
(bif Nat.blt pc 107 then
(bif Nat.beq pc 106 then en (.dup) 0 0 0 0 else none) else
(bif Nat.beq pc 107 then en (.bipush 6) 0 0 0 0 else none))) else
(bif Nat.blt pc 112 then
(bif Nat.blt pc 111 then
(bif Nat.beq pc 109 then en (.bipush 110) 0 0 0 0 else none) else
(bif Nat.beq pc 111 then en (.castore) 0 0 0 0 else none)) else
(bif Nat.blt pc 113 then
(bif Nat.beq pc 112 then en (.dup) 0 0 0 0 else none) else
(bif Nat.beq pc 113 then en (.bipush 7) 0 0 0 0 else none)))) else
(bif Nat.blt pc 121 then
(bif Nat.blt pc 118 then
(bif Nat.blt pc 117 then
(bif Nat.beq pc 115 then en (.bipush 32) 0 0 0 0 else none) else
(bif Nat.beq pc 117 then en (.castore) 0 0 0 0 else none)) else
(bif Nat.blt pc 119 then
(bif Nat.beq pc 118 then en (.dup) 0 0 0 0 else none) else
(bif Nat.beq pc 119 then en (.bipush 8) 0 0 0 0 else none))) else
(bif Nat.blt pc 124 then
(bif Nat.blt pc 123 then
(bif Nat.beq pc 121 then en (.bipush 116) 0 0 0 0 else none) else
(bif Nat.beq pc 123 then en (.castore) 0 0 0 0 else none)) else
(bif Nat.blt pc 125 then
(bif Nat.beq pc 124 then en (.dup) 0 0 0 0 else none) else
(bif Nat.beq pc 125 then en (.bipush 9) 0 0 0 0 else none))))) else
(bif Nat.blt pc 139 then
(bif Nat.blt pc 133 then
(bif Nat.blt pc 130 then
(bif Nat.blt pc 129 then
(bif Nat.beq pc 127 then en (.bipush 114) 0 0 0 0 else none) else
(bif Nat.beq pc 129 then en (.castore) 0 0 0 0 else none)) else
(bif Nat.blt pc 131 then
(bif Nat.beq pc 130 then en (.dup) 0 0 0 0 else none) else
(bif Nat.beq pc 131 then en (.bipush 10) 0 0 0 0 else none))) else
(bif Nat.blt pc 136 then
(bif Nat.blt pc 135 then
(bif Nat.beq pc 133 then en (.bipush 97) 0 0 0 0 else none) else
(bif Nat.beq pc 135 then en (.castore) 0 0 0 0 else none)) else
(bif Nat.blt pc 137 then
(bif Nat.beq pc 136 then en (.dup) 0 0 0 0 else none) else
(bif Nat.beq pc 137 then en (.bipush 11) 0 0 0 0 else none)))) else
(bif Nat.blt pc 145 then
(bif Nat.blt pc 142 then
(bif Nat.blt pc 141 then
(bif Nat.beq pc 139 then en (.bipush 99) 0 0 0 0 else none) else
(bif Nat.beq pc 141 then en (.castore) 0 0 0 0 else none)) else
(bif Nat.blt pc 143 then
(bif Nat.beq pc 142 then en (.dup) 0 0 0 0 else none) else
(bif Nat.beq pc 143 then en (.bipush 12) 0 0 0 0 else none))) else
(bif Nat.blt pc 148 then
(bif Nat.blt pc 147 then
(bif Nat.beq pc 145 then en (.bipush 107) 0 0 0 0 else none) else
(bif Nat.beq pc 147 then en (.castore) 0 0 0 0 else none)) else
(bif Nat.blt pc 149 then
(bif Nat.beq pc 148 then en (.dup) 0 0 0 0 else none) else
(bif Nat.beq pc 149 then en (.bipush 13) 0 0 0 0 else none)))))) else
(bif Nat.blt pc 173 then
(bif Nat.blt pc 161 then
(bif Nat.blt pc 155 then
(bif Nat.blt pc 153 then
(bif Nat.beq pc 151 then en (.bipush 115) 0 0 0 0 else none) else
(bif Nat.blt pc 154 then
(bif Nat.beq pc 153 then en (.castore) 0 0 0 0 else none) else
(bif Nat.beq pc 154 then en (.dup) 0 0 0 0 else none))) else
(bif Nat.blt pc 159 then
(bif Nat.blt pc 157 then
(bif Nat.beq pc 155 then en (.bipush 14) 0 0 0 0 else none) else
(bif Nat.beq pc 157 then en (.bipush 32) 0 0 0 0 else none)) else
(bif Nat.blt pc 160 then
(bif Nat.beq pc 159 then en (.castore) 0 0 0 0 else none) else
(bif Nat.beq pc 160 then en (.dup) 0 0 0 0 else none)))) else
(bif Nat.blt pc 167 then
(bif Nat.blt pc 165 then
(bif Nat.blt pc 163 then
(bif Nat.beq pc 161 then en (.bipush 15) 0 0 0 0 else none) else
(bif Nat.beq pc 163 then en (.bipush 116) 0 0 0 0 else none)) else
(bif Nat.blt pc 166 then
(bif Nat.beq pc 165 then en (.castore) 0 0 0 0 else none) else
(bif Nat.beq pc 166 then en (.dup) 0 0 0 0 else none))) else
(bif Nat.blt pc 171 then
(bif Nat.blt pc 169 then
(bif Nat.beq pc 167 then en (.bipush 16) 0 0 0 0 else none) else
(bif Nat.beq pc 169 then en (.bipush 114) 0 0 0 0 else none)) else
(bif Nat.blt pc 172 then
(bif Nat.beq pc 171 then en (.castore) 0 0 0 0 else none) else
(bif Nat.beq pc 172 then en (.dup) 0 0 0 0 else none))))) else
(bif Nat.blt pc 185 then
(bif Nat.blt pc 179 then
(bif Nat.blt pc 177 then
(bif Nat.blt pc 175 then
(bif Nat.beq pc 173 then en (.bipush 17) 0 0 0 0 else none) else
(bif Nat.beq pc 175 then en (.bipush 97) 0 0 0 0 else none)) else
(bif Nat.blt pc 178 then
(bif Nat.beq pc 177 then en (.castore) 0 0 0 0 else none) else
(bif Nat.beq pc 178 then en (.dup) 0 0 0 0 else none))) else
(bif Nat.blt pc 183 then
(bif Nat.blt pc 181 then
(bif Nat.beq pc 179 then en (.bipush 18) 0 0 0 0 else none) else
(bif Nat.beq pc 181 then en (.bipush 105) 0 0 0 0 else none)) else
(bif Nat.blt pc 184 then
(bif Nat.beq pc 183 then en (.castore) 0 0 0 0 else none) else
(bif Nat.beq pc 184 then en (.dup) 0 0 0 0 else none)))) else
(bif Nat.blt pc 191 then
(bif Nat.blt pc 189 then
(bif Nat.blt pc 187 then
(bif Nat.beq pc 185 then en (.bipush 19) 0 0 0 0 else none) else
(bif Nat.beq pc 187 then en (.bipush 110) 0 0 0 0 else none)) else
(bif Nat.blt pc 190 then
(bif Nat.beq pc 189 then en (.castore) 0 0 0 0 else none) else
(bif Nat.beq pc 190 then en (.dup) 0 0 0 0 else none))) else
(bif Nat.blt pc 195 then
(bif Nat.blt pc 193 then
(bif Nat.beq pc 191 then en (.bipush 20) 0 0 0 0 else none) else
(bif Nat.beq pc 193 then en (.bipush 32) 0 0 0 0 else none)) else
(bif Nat.blt pc 196 then
(bif Nat.beq pc 195 then en (.castore) 0 0 0 0 else none) else
(bif Nat.beq pc 196 then en (.dup) 0 0 0 0 else none)))))))) else
(bif Nat.blt pc 291 then
(bif Nat.blt pc 244 then
(bif Nat.blt pc 220 then
(bif Nat.blt pc 208 then
(bif Nat.blt pc 202 then
(bif Nat.blt pc 199 then
(bif Nat.beq pc 197 then en (.bipush 21) 0 0 0 0 else none) else
(bif Nat.blt pc 201 then
(bif Nat.beq pc 199 then en (.bipush 104) 0 0 0 0 else none) else
(bif Nat.beq pc 201 then en (.castore) 0 0 0 0 else none))) else
(bif Nat.blt pc 205 then
(bif Nat.blt pc 203 then
(bif Nat.beq pc 202 then en (.dup) 0 0 0 0 else none) else
(bif Nat.beq pc 203 then en (.bipush 22) 0 0 0 0 else none)) else
(bif Nat.blt pc 207 then
(bif Nat.beq pc 205 then en (.bipush 111) 0 0 0 0 else none) else
(bif Nat.beq pc 207 then en (.castore) 0 0 0 0 else none)))) else
(bif Nat.blt pc 214 then
(bif Nat.blt pc 211 then
(bif Nat.blt pc 209 then
(bif Nat.beq pc 208 then en (.dup) 0 0 0 0 else none) else
(bif Nat.beq pc 209 then en (.bipush 23) 0 0 0 0 else none)) else
(bif Nat.blt pc 213 then
(bif Nat.beq pc 211 then en (.bipush 108) 0 0 0 0 else none) else
(bif Nat.beq pc 213 then en (.castore) 0 0 0 0 else none))) else
(bif Nat.blt pc 217 then
(bif Nat.blt pc 215 then
(bif Nat.beq pc 214 then en (.dup) 0 0 0 0 else none) else
(bif Nat.beq pc 215 then en (.bipush 24) 0 0 0 0 else none)) else
(bif Nat.blt pc 219 then
(bif Nat.beq pc 217 then en (.bipush 100) 0 0 0 0 else none) else
(bif Nat.beq pc 219 then en (.castore) 0 0 0 0 else none))))) else
(bif Nat.blt pc 232 then
(bif Nat.blt pc 226 then
(bif Nat.blt pc 223 then
(bif Nat.blt pc 221 then
(bif Nat.beq pc 220 then en (.dup) 0 0 0 0 else none) else
(bif Nat.beq pc 221 then en (.bipush 25) 0 0 0 0 else none)) else
(bif Nat.blt pc 225 then
(bif Nat.beq pc 223 then en (.bipush 32) 0 0 0 0 else none) else
(bif Nat.beq pc 225 then en (.castore) 0 0 0 0 else none))) else
(bif Nat.blt pc 229 then
(bif Nat.blt pc 227 then
(bif Nat.beq pc 226 then en (.dup) 0 0 0 0 else none) else
(bif Nat.beq pc 227 then en (.bipush 26) 0 0 0 0 else none)) else
(bif Nat.blt pc 231 then
(bif Nat.beq pc 229 then en (.bipush 103) 0 0 0 0 else none) else
(bif Nat.beq pc 231 then en (.castore) 0 0 0 0 else none)))) else
(bif Nat.blt pc 238 then
(bif Nat.blt pc 235 then
(bif Nat.blt pc 233 then
(bif Nat.beq pc 232 then en (.dup) 0 0 0 0 else none) else
(bif Nat.beq pc 233 then en (.bipush 27) 0 0 0 0 else none)) else
(bif Nat.blt pc 237 then
(bif Nat.beq pc 235 then en (.bipush 111) 0 0 0 0 else none) else
(bif Nat.beq pc 237 then en (.castore) 0 0 0 0 else none))) else
(bif Nat.blt pc 241 then
(bif Nat.blt pc 239 then
(bif Nat.beq pc 238 then en (.dup) 0 0 0 0 else none) else
(bif Nat.beq pc 239 then en (.bipush 28) 0 0 0 0 else none)) else
(bif Nat.blt pc 243 then
(bif Nat.beq pc 241 then en (.bipush 32) 0 0 0 0 else none) else
(bif Nat.beq pc 243 then en (.castore) 0 0 0 0 else none)))))) else
(bif Nat.blt pc 267 then
(bif Nat.blt pc 255 then
(bif Nat.blt pc 249 then
(bif Nat.blt pc 245 then
(bif Nat.beq pc 244 then en (.dup) 0 0 0 0 else none) else
(bif Nat.blt pc 247 then
(bif Nat.beq pc 245 then en (.bipush 29) 0 0 0 0 else none) else
(bif Nat.beq pc 247 then en (.bipush 99) 0 0 0 0 else none))) else
(bif Nat.blt pc 251 then
(bif Nat.blt pc 250 then
(bif Nat.beq pc 249 then en (.castore) 0 0 0 0 else none) else
(bif Nat.beq pc 250 then en (.dup) 0 0 0 0 else none)) else
(bif Nat.blt pc 253 then
(bif Nat.beq pc 251 then en (.bipush 30) 0 0 0 0 else none) else
(bif Nat.beq pc 253 then en (.bipush 97) 0 0 0 0 else none)))) else
(bif Nat.blt pc 261 then
(bif Nat.blt pc 257 then
(bif Nat.blt pc 256 then
(bif Nat.beq pc 255 then en (.castore) 0 0 0 0 else none) else
(bif Nat.beq pc 256 then en (.dup) 0 0 0 0 else none)) else
(bif Nat.blt pc 259 then
(bif Nat.beq pc 257 then en (.bipush 31) 0 0 0 0 else none) else
(bif Nat.beq pc 259 then en (.bipush 110) 0 0 0 0 else none))) else
(bif Nat.blt pc 263 then
(bif Nat.blt pc 262 then
(bif Nat.beq pc 261 then en (.castore) 0 0 0 0 else none) else
(bif Nat.beq pc 262 then en (.dup) 0 0 0 0 else none)) else
(bif Nat.blt pc 265 then
(bif Nat.beq pc 263 then en (.bipush 32) 0 0 0 0 else none) else
(bif Nat.beq pc 265 then en (.bipush 99) 0 0 0 0 else none))))) else
(bif Nat.blt pc 279 then
(bif Nat.blt pc 273 then
(bif Nat.blt pc 269 then
(bif Nat.blt pc 268 then
(bif Nat.beq pc 267 then en (.castore) 0 0 0 0 else none) else
(bif Nat.beq pc 268 then en (.dup) 0 0 0 0 else none)) else
(bif Nat.blt pc 271 then
(bif Nat.beq pc 269 then en (.bipush 33) 0 0 0 0 else none) else
(bif Nat.beq pc 271 then en (.bipush 101) 0 0 0 0 else none))) else
(bif Nat.blt pc 275 then
(bif Nat.blt pc 274 then
(bif Nat.beq pc 273 then en (.castore) 0 0 0 0 else none) else
(bif Nat.beq pc 274 then en (.dup) 0 0 0 0 else none)) else
(bif Nat.blt pc 277 then
(bif Nat.beq pc 275 then en (.bipush 34) 0 0 0 0 else none) else
(bif Nat.beq pc 277 then en (.bipush 108) 0 0 0 0 else none)))) else
(bif Nat.blt pc 285 then
(bif Nat.blt pc 281 then
(bif Nat.blt pc 280 then
(bif Nat.beq pc 279 then en (.castore) 0 0 0 0 else none) else
(bif Nat.beq pc 280 then en (.dup) 0 0 0 0 else none)) else
(bif Nat.blt pc 283 then
(bif Nat.beq pc 281 then en (.bipush 35) 0 0 0 0 else none) else
(bif Nat.beq pc 283 then en (.bipush 32) 0 0 0 0 else none))) else
(bif Nat.blt pc 287 then
(bif Nat.blt pc 286 then
(bif Nat.beq pc 285 then en (.castore) 0 0 0 0 else none) else
(bif Nat.beq pc 286 then en (.dup) 0 0 0 0 else none)) else
(bif Nat.blt pc 289 then
(bif Nat.beq pc 287 then en (.bipush 36) 0 0 0 0 else none) else
(bif Nat.beq pc 289 then en (.bipush 119) 0 0 0 0 else none))))))) else
(bif Nat.blt pc 335 then
(bif Nat.blt pc 313 then
(bif Nat.blt pc 301 then
(bif Nat.blt pc 295 then
(bif Nat.blt pc 292 then
(bif Nat.beq pc 291 then en (.castore) 0 0 0 0 else none) else
(bif Nat.blt pc 293 then
(bif Nat.beq pc 292 then en (.dup) 0 0 0 0 else none) else
(bif Nat.beq pc 293 then en (.bipush 37) 0 0 0 0 else none))) else
(bif Nat.blt pc 298 then
(bif Nat.blt pc 297 then
(bif Nat.beq pc 295 then en (.bipush 97) 0 0 0 0 else none) else
(bif Nat.beq pc 297 then en (.castore) 0 0 0 0 else none)) else
(bif Nat.blt pc 299 then
(bif Nat.beq pc 298 then en (.dup) 0 0 0 0 else none) else
(bif Nat.beq pc 299 then en (.bipush 38) 0 0 0 0 else none)))) else
(bif Nat.blt pc 307 then
(bif Nat.blt pc 304 then
(bif Nat.blt pc 303 then
(bif Nat.beq pc 301 then en (.bipush 105) 0 0 0 0 else none) else
(bif Nat.beq pc 303 then en (.castore) 0 0 0 0 else none)) else
(bif Nat.blt pc 305 then
(bif Nat.beq pc 304 then en (.dup) 0 0 0 0 else none) else
(bif Nat.beq pc 305 then en (.bipush 39) 0 0 0 0 else none))) else
(bif Nat.blt pc 310 then
(bif Nat.blt pc 309 then
(bif Nat.beq pc 307 then en (.bipush 116) 0 0 0 0 else none) else
(bif Nat.beq pc 309 then en (.castore) 0 0 0 0 else none)) else
(bif Nat.blt pc 311 then
(bif Nat.beq pc 310 then en (.dup) 0 0 0 0 else none) else
(bif Nat.beq pc 311 then en (.bipush 40) 0 0 0 0 else none))))) else
(bif Nat.blt pc 326 then
(bif Nat.blt pc 320 then
(bif Nat.blt pc 316 then
(bif Nat.blt pc 315 then
(bif Nat.beq pc 313 then en (.bipush 32) 0 0 0 0 else none) else
(bif Nat.beq pc 315 then en (.castore) 0 0 0 0 else none)) else
(bif Nat.blt pc 319 then
(bif Nat.beq pc 316 then en (.putfield 38) 5 14 1507 0 else none) else
(bif Nat.beq pc 319 then en (.aload_n 0) 0 0 0 0 else none))) else
(bif Nat.blt pc 324 then
(bif Nat.blt pc 322 then
(bif Nat.beq pc 320 then en (.bipush 8) 0 0 0 0 else none) else
(bif Nat.beq pc 322 then en (.newarray .int) 0 0 0 0 else none)) else
(bif Nat.blt pc 325 then
(bif Nat.beq pc 324 then en (.dup) 0 0 0 0 else none) else
(bif Nat.beq pc 325 then en (.iconst 0) 0 0 0 0 else none)))) else
(bif Nat.blt pc 330 then
(bif Nat.blt pc 328 then
(bif Nat.blt pc 327 then
(bif Nat.beq pc 326 then en (.iconst 0) 0 0 0 0 else none) else
(bif Nat.beq pc 327 then en (.iastore) 0 0 0 0 else none)) else
(bif Nat.blt pc 329 then
(bif Nat.beq pc 328 then en (.dup) 0 0 0 0 else none) else
(bif Nat.beq pc 329 then en (.iconst 1) 0 0 0 0 else none))) else
(bif Nat.blt pc 333 then
(bif Nat.blt pc 332 then
(bif Nat.beq pc 330 then en (.bipush 8) 0 0 0 0 else none) else
(bif Nat.beq pc 332 then en (.iastore) 0 0 0 0 else none)) else
(bif Nat.blt pc 334 then
(bif Nat.beq pc 333 then en (.dup) 0 0 0 0 else none) else
(bif Nat.beq pc 334 then en (.iconst 2) 0 0 0 0 else none)))))) else
(bif Nat.blt pc 356 then
(bif Nat.blt pc 345 then
(bif Nat.blt pc 340 then
(bif Nat.blt pc 338 then
(bif Nat.blt pc 337 then
(bif Nat.beq pc 335 then en (.bipush 15) 0 0 0 0 else none) else
(bif Nat.beq pc 337 then en (.iastore) 0 0 0 0 else none)) else
(bif Nat.blt pc 339 then
(bif Nat.beq pc 338 then en (.dup) 0 0 0 0 else none) else
(bif Nat.beq pc 339 then en (.iconst 3) 0 0 0 0 else none))) else
(bif Nat.blt pc 343 then
(bif Nat.blt pc 342 then
(bif Nat.beq pc 340 then en (.bipush 21) 0 0 0 0 else none) else
(bif Nat.beq pc 342 then en (.iastore) 0 0 0 0 else none)) else
(bif Nat.blt pc 344 then
(bif Nat.beq pc 343 then en (.dup) 0 0 0 0 else none) else
(bif Nat.beq pc 344 then en (.iconst 4) 0 0 0 0 else none)))) else
(bif Nat.blt pc 350 then
(bif Nat.blt pc 348 then
(bif Nat.blt pc 347 then
(bif Nat.beq pc 345 then en (.bipush 26) 0 0 0 0 else none) else
(bif Nat.beq pc 347 then en (.iastore) 0 0 0 0 else none)) else
(bif Nat.blt pc 349 then
(bif Nat.beq pc 348 then en (.dup) 0 0 0 0 else none) else
(bif Nat.beq pc 349 then en (.iconst 5) 0 0 0 0 else none))) else
(bif Nat.blt pc 353 then
(bif Nat.blt pc 352 then
(bif Nat.beq pc 350 then en (.bipush 29) 0 0 0 0 else none) else
(bif Nat.beq pc 352 then en (.iastore) 0 0 0 0 else none)) else
(bif Nat.blt pc 354 then
(bif Nat.beq pc 353 then en (.dup) 0 0 0 0 else none) else
(bif Nat.beq pc 354 then en (.bipush 6) 0 0 0 0 else none))))) else
(bif Nat.blt pc 369 then
(bif Nat.blt pc 362 then
(bif Nat.blt pc 359 then
(bif Nat.blt pc 358 then
(bif Nat.beq pc 356 then en (.bipush 36) 0 0 0 0 else none) else
(bif Nat.beq pc 358 then en (.iastore) 0 0 0 0 else none)) else
(bif Nat.blt pc 360 then
(bif Nat.beq pc 359 then en (.dup) 0 0 0 0 else none) else
(bif Nat.beq pc 360 then en (.bipush 7) 0 0 0 0 else none))) else
(bif Nat.blt pc 365 then
(bif Nat.blt pc 364 then
(bif Nat.beq pc 362 then en (.bipush 41) 0 0 0 0 else none) else
(bif Nat.beq pc 364 then en (.iastore) 0 0 0 0 else none)) else
(bif Nat.blt pc 368 then
(bif Nat.beq pc 365 then en (.putfield 42) 5 15 1508 0 else none) else
(bif Nat.beq pc 368 then en (.aload_n 0) 0 0 0 0 else none)))) else
(bif Nat.blt pc 378 then
(bif Nat.blt pc 374 then
(bif Nat.blt pc 372 then
(bif Nat.beq pc 369 then en (.sipush 244) 0 0 0 0 else none) else
(bif Nat.beq pc 372 then en (.newarray .int) 0 0 0 0 else none)) else
(bif Nat.blt pc 377 then
(bif Nat.beq pc 374 then en (.putfield 45) 5 16 1509 0 else none) else
(bif Nat.beq pc 377 then en (.aload_n 0) 0 0 0 0 else none))) else
(bif Nat.blt pc 382 then
(bif Nat.blt pc 380 then
(bif Nat.beq pc 378 then en (.bipush 120) 0 0 0 0 else none) else
(bif Nat.beq pc 380 then en (.newarray .int) 0 0 0 0 else none)) else
(bif Nat.blt pc 385 then
(bif Nat.beq pc 382 then en (.putfield 48) 5 21 1514 0 else none) else
(bif Nat.beq pc 385 then en (.return_) 0 0 0 0 else none))))))))) else none
/-- SingleTrackLineModel.thrown()I -/
def mc149 (pc : Nat) : Option En := bif Nat.blt pc 5 then (bif Nat.blt pc 1 then
(bif Nat.beq pc 0 then en (.aload_n 0) 0 0 0 0 else none) else
(bif Nat.blt pc 4 then
(bif Nat.beq pc 1 then en (.getfield 51) 5 9 1502 0 else none) else
(bif Nat.beq pc 4 then en (.ireturn) 0 0 0 0 else none))) else none
/-- SingleTrackLineModel.throwing(I)I -/
def mc150 (pc : Nat) : Option En := bif Nat.blt pc 7 then (bif Nat.blt pc 2 then
(bif Nat.blt pc 1 then
(bif Nat.beq pc 0 then en (.aload_n 0) 0 0 0 0 else none) else
(bif Nat.beq pc 1 then en (.iload_n 1) 0 0 0 0 else none)) else
(bif Nat.blt pc 5 then
(bif Nat.beq pc 2 then en (.putfield 51) 5 9 1502 0 else none) else
(bif Nat.blt pc 6 then
(bif Nat.beq pc 5 then en (.iconst (-1)) 0 0 0 0 else none) else
(bif Nat.beq pc 6 then en (.ireturn) 0 0 0 0 else none)))) else none
/-- SingleTrackLineModel.in(JJJ)Z -/
def mc151 (pc : Nat) : Option En := bif Nat.blt pc 19 then (bif Nat.blt pc 9 then
(bif Nat.blt pc 3 then
(bif Nat.blt pc 1 then
(bif Nat.beq pc 0 then en (.lload_n 0) 0 0 0 0 else none) else
(bif Nat.blt pc 2 then
(bif Nat.beq pc 1 then en (.lload_n 2) 0 0 0 0 else none) else
(bif Nat.beq pc 2 then en (.lcmp) 0 0 0 0 else none))) else
(bif Nat.blt pc 6 then
(bif Nat.beq pc 3 then en (.ifCond .lt 14) 17 0 0 0 else none) else
(bif Nat.blt pc 7 then
(bif Nat.beq pc 6 then en (.lload_n 0) 0 0 0 0 else none) else
(bif Nat.beq pc 7 then en (.lload 4) 0 0 0 0 else none)))) else
(bif Nat.blt pc 14 then
(bif Nat.blt pc 10 then
(bif Nat.beq pc 9 then en (.lcmp) 0 0 0 0 else none) else
(bif Nat.blt pc 13 then
(bif Nat.beq pc 10 then en (.ifCond .gt 7) 17 0 0 0 else none) else
(bif Nat.beq pc 13 then en (.iconst 1) 0 0 0 0 else none))) else
(bif Nat.blt pc 17 then
(bif Nat.beq pc 14 then en (.goto 4) 18 0 0 0 else none) else
(bif Nat.blt pc 18 then
(bif Nat.beq pc 17 then en (.iconst 0) 0 0 0 0 else none) else
(bif Nat.beq pc 18 then en (.ireturn) 0 0 0 0 else none))))) else none
/-- SingleTrackLineModel.starts()V -/
def mc152 (pc : Nat) : Option En := bif Nat.blt pc 32 then (bif Nat.blt pc 14 then
(bif Nat.blt pc 6 then
(bif Nat.blt pc 2 then
(bif Nat.blt pc 1 then
(bif Nat.beq pc 0 then en (.aload_n 0) 0 0 0 0 else none) else
(bif Nat.beq pc 1 then en (.iconst 0) 0 0 0 0 else none)) else
(bif Nat.blt pc 5 then
(bif Nat.beq pc 2 then en (.putfield 51) 5 9 1502 0 else none) else
(bif Nat.beq pc 5 then en (.iconst 0) 0 0 0 0 else none))) else
(bif Nat.blt pc 8 then
(bif Nat.blt pc 7 then
(bif Nat.beq pc 6 then en (.istore_n 1) 0 0 0 0 else none) else
(bif Nat.beq pc 7 then en (.iload_n 1) 0 0 0 0 else none)) else
(bif Nat.blt pc 10 then
(bif Nat.beq pc 8 then en (.bipush 76) 0 0 0 0 else none) else
(bif Nat.blt pc 13 then
(bif Nat.beq pc 10 then en (.if_icmp .ge 21) 31 0 0 0 else none) else
(bif Nat.beq pc 13 then en (.aload_n 0) 0 0 0 0 else none))))) else
(bif Nat.blt pc 23 then
(bif Nat.blt pc 18 then
(bif Nat.blt pc 17 then
(bif Nat.beq pc 14 then en (.getfield 13) 5 1 1494 0 else none) else
(bif Nat.beq pc 17 then en (.iload_n 1) 0 0 0 0 else none)) else
(bif Nat.blt pc 19 then
(bif Nat.beq pc 18 then en (.aload_n 0) 0 0 0 0 else none) else
(bif Nat.blt pc 22 then
(bif Nat.beq pc 19 then en (.getfield 9) 5 0 1493 0 else none) else
(bif Nat.beq pc 22 then en (.iload_n 1) 0 0 0 0 else none)))) else
(bif Nat.blt pc 25 then
(bif Nat.blt pc 24 then
(bif Nat.beq pc 23 then en (.iaload) 0 0 0 0 else none) else
(bif Nat.beq pc 24 then en (.iastore) 0 0 0 0 else none)) else
(bif Nat.blt pc 28 then
(bif Nat.beq pc 25 then en (.iinc 1 1) 0 0 0 0 else none) else
(bif Nat.blt pc 31 then
(bif Nat.beq pc 28 then en (.goto (-21)) 7 0 0 0 else none) else
(bif Nat.beq pc 31 then en (.return_) 0 0 0 0 else none)))))) else none
/-- SingleTrackLineModel.changed(I)I -/
def mc153 (pc : Nat) : Option En := bif Nat.blt pc 104 then (bif Nat.blt pc 54 then
(bif Nat.blt pc 28 then
(bif Nat.blt pc 13 then
(bif Nat.blt pc 7 then
(bif Nat.blt pc 1 then
(bif Nat.beq pc 0 then en (.aload_n 0) 0 0 0 0 else none) else
(bif Nat.blt pc 4 then
(bif Nat.beq pc 1 then en (.getfield 51) 5 9 1502 0 else none) else
(bif Nat.beq pc 4 then en (.ifCond .le 5) 9 0 0 0 else none))) else
(bif Nat.blt pc 9 then
(bif Nat.blt pc 8 then
(bif Nat.beq pc 7 then en (.iload_n 1) 0 0 0 0 else none) else
(bif Nat.beq pc 8 then en (.ireturn) 0 0 0 0 else none)) else
(bif Nat.blt pc 10 then
(bif Nat.beq pc 9 then en (.aload_n 0) 0 0 0 0 else none) else
(bif Nat.beq pc 10 then en (.getfield 54) 5 6 1499 0 else none)))) else
(bif Nat.blt pc 20 then
(bif Nat.blt pc 18 then
(bif Nat.blt pc 15 then
(bif Nat.beq pc 13 then en (.bipush 8) 0 0 0 0 else none) else
(bif Nat.beq pc 15 then en (.if_icmp .ne 43) 58 0 0 0 else none)) else
(bif Nat.blt pc 19 then
(bif Nat.beq pc 18 then en (.iconst 0) 0 0 0 0 else none) else
(bif Nat.beq pc 19 then en (.istore_n 2) 0 0 0 0 else none))) else
(bif Nat.blt pc 24 then
(bif Nat.blt pc 21 then
(bif Nat.beq pc 20 then en (.iload_n 2) 0 0 0 0 else none) else
(bif Nat.beq pc 21 then en (.sipush 532) 0 0 0 0 else none)) else
(bif Nat.blt pc 27 then
(bif Nat.beq pc 24 then en (.if_icmp .ge 24) 48 0 0 0 else none) else
(bif Nat.beq pc 27 then en (.aload_n 0) 0 0 0 0 else none))))) else
(bif Nat.blt pc 40 then
(bif Nat.blt pc 33 then
(bif Nat.blt pc 31 then
(bif Nat.beq pc 28 then en (.getfield 22) 5 5 1498 0 else none) else
(bif Nat.blt pc 32 then
(bif Nat.beq pc 31 then en (.iload_n 2) 0 0 0 0 else none) else
(bif Nat.beq pc 32 then en (.aload_n 0) 0 0 0 0 else none))) else
(bif Nat.blt pc 37 then
(bif Nat.blt pc 36 then
(bif Nat.beq pc 33 then en (.getfield 22) 5 5 1498 0 else none) else
(bif Nat.beq pc 36 then en (.iload_n 2) 0 0 0 0 else none)) else
(bif Nat.blt pc 39 then
(bif Nat.beq pc 37 then en (.bipush 76) 0 0 0 0 else none) else
(bif Nat.beq pc 39 then en (.iadd) 0 0 0 0 else none)))) else
(bif Nat.blt pc 48 then
(bif Nat.blt pc 42 then
(bif Nat.blt pc 41 then
(bif Nat.beq pc 40 then en (.iaload) 0 0 0 0 else none) else
(bif Nat.beq pc 41 then en (.iastore) 0 0 0 0 else none)) else
(bif Nat.blt pc 45 then
(bif Nat.beq pc 42 then en (.iinc 2 1) 0 0 0 0 else none) else
(bif Nat.beq pc 45 then en (.goto (-25)) 20 0 0 0 else none))) else
(bif Nat.blt pc 50 then
(bif Nat.blt pc 49 then
(bif Nat.beq pc 48 then en (.aload_n 0) 0 0 0 0 else none) else
(bif Nat.beq pc 49 then en (.dup) 0 0 0 0 else none)) else
(bif Nat.blt pc 53 then
(bif Nat.beq pc 50 then en (.getfield 54) 5 6 1499 0 else none) else
(bif Nat.beq pc 53 then en (.iconst 1) 0 0 0 0 else none)))))) else
(bif Nat.blt pc 79 then
(bif Nat.blt pc 66 then
(bif Nat.blt pc 59 then
(bif Nat.blt pc 55 then
(bif Nat.beq pc 54 then en (.isub) 0 0 0 0 else none) else
(bif Nat.blt pc 58 then
(bif Nat.beq pc 55 then en (.putfield 54) 5 6 1499 0 else none) else
(bif Nat.beq pc 58 then en (.iconst 0) 0 0 0 0 else none))) else
(bif Nat.blt pc 61 then
(bif Nat.blt pc 60 then
(bif Nat.beq pc 59 then en (.istore_n 2) 0 0 0 0 else none) else
(bif Nat.beq pc 60 then en (.iload_n 2) 0 0 0 0 else none)) else
(bif Nat.blt pc 63 then
(bif Nat.beq pc 61 then en (.bipush 76) 0 0 0 0 else none) else
(bif Nat.beq pc 63 then en (.if_icmp .ge 29) 92 0 0 0 else none)))) else
(bif Nat.blt pc 73 then
(bif Nat.blt pc 70 then
(bif Nat.blt pc 67 then
(bif Nat.beq pc 66 then en (.aload_n 0) 0 0 0 0 else none) else
(bif Nat.beq pc 67 then en (.getfield 22) 5 5 1498 0 else none)) else
(bif Nat.blt pc 72 then
(bif Nat.beq pc 70 then en (.bipush 76) 0 0 0 0 else none) else
(bif Nat.beq pc 72 then en (.aload_n 0) 0 0 0 0 else none))) else
(bif Nat.blt pc 77 then
(bif Nat.blt pc 76 then
(bif Nat.beq pc 73 then en (.getfield 54) 5 6 1499 0 else none) else
(bif Nat.beq pc 76 then en (.imul) 0 0 0 0 else none)) else
(bif Nat.blt pc 78 then
(bif Nat.beq pc 77 then en (.iload_n 2) 0 0 0 0 else none) else
(bif Nat.beq pc 78 then en (.iadd) 0 0 0 0 else none))))) else
(bif Nat.blt pc 92 then
(bif Nat.blt pc 84 then
(bif Nat.blt pc 80 then
(bif Nat.beq pc 79 then en (.aload_n 0) 0 0 0 0 else none) else
(bif Nat.blt pc 83 then
(bif Nat.beq pc 80 then en (.getfield 13) 5 1 1494 0 else none) else
(bif Nat.beq pc 83 then en (.iload_n 2) 0 0 0 0 else none))) else
(bif Nat.blt pc 86 then
(bif Nat.blt pc 85 then
(bif Nat.beq pc 84 then en (.iaload) 0 0 0 0 else none) else
(bif Nat.beq pc 85 then en (.iastore) 0 0 0 0 else none)) else
(bif Nat.blt pc 89 then
(bif Nat.beq pc 86 then en (.iinc 2 1) 0 0 0 0 else none) else
(bif Nat.beq pc 89 then en (.goto (-29)) 60 0 0 0 else none)))) else
(bif Nat.blt pc 98 then
(bif Nat.blt pc 94 then
(bif Nat.blt pc 93 then
(bif Nat.beq pc 92 then en (.aload_n 0) 0 0 0 0 else none) else
(bif Nat.beq pc 93 then en (.dup) 0 0 0 0 else none)) else
(bif Nat.blt pc 97 then
(bif Nat.beq pc 94 then en (.getfield 54) 5 6 1499 0 else none) else
(bif Nat.beq pc 97 then en (.iconst 1) 0 0 0 0 else none))) else
(bif Nat.blt pc 102 then
(bif Nat.blt pc 99 then
(bif Nat.beq pc 98 then en (.iadd) 0 0 0 0 else none) else
(bif Nat.beq pc 99 then en (.putfield 54) 5 6 1499 0 else none)) else
(bif Nat.blt pc 103 then
(bif Nat.beq pc 102 then en (.iload_n 1) 0 0 0 0 else none) else
(bif Nat.beq pc 103 then en (.ireturn) 0 0 0 0 else none))))))) else none
/-- SingleTrackLineModel.trainAt(I)I -/
def mc154 (pc : Nat) : Option En := bif Nat.blt pc 8 then (bif Nat.blt pc 5 then
(bif Nat.blt pc 2 then
(bif Nat.beq pc 0 then en (.bipush 22) 0 0 0 0 else none) else
(bif Nat.blt pc 4 then
(bif Nat.beq pc 2 then en (.bipush 9) 0 0 0 0 else none) else
(bif Nat.beq pc 4 then en (.iload_n 0) 0 0 0 0 else none))) else
(bif Nat.blt pc 6 then
(bif Nat.beq pc 5 then en (.imul) 0 0 0 0 else none) else
(bif Nat.blt pc 7 then
(bif Nat.beq pc 6 then en (.iadd) 0 0 0 0 else none) else
(bif Nat.beq pc 7 then en (.ireturn) 0 0 0 0 else none)))) else none
/-- SingleTrackLineModel.isStation(I)Z -/
def mc155 (pc : Nat) : Option En := bif Nat.blt pc 16 then (bif Nat.blt pc 8 then
(bif Nat.blt pc 3 then
(bif Nat.blt pc 1 then
(bif Nat.beq pc 0 then en (.iload_n 1) 0 0 0 0 else none) else
(bif Nat.blt pc 2 then
(bif Nat.beq pc 1 then en (.i2l) 0 0 0 0 else none) else
(bif Nat.beq pc 2 then en (.lconst 0) 0 0 0 0 else none))) else
(bif Nat.blt pc 4 then
(bif Nat.beq pc 3 then en (.aload_n 0) 0 0 0 0 else none) else
(bif Nat.blt pc 7 then
(bif Nat.beq pc 4 then en (.getfield 9) 5 0 1493 0 else none) else
(bif Nat.beq pc 7 then en (.iconst 0) 0 0 0 0 else none)))) else
(bif Nat.blt pc 11 then
(bif Nat.blt pc 9 then
(bif Nat.beq pc 8 then en (.iaload) 0 0 0 0 else none) else
(bif Nat.blt pc 10 then
(bif Nat.beq pc 9 then en (.iconst 1) 0 0 0 0 else none) else
(bif Nat.beq pc 10 then en (.isub) 0 0 0 0 else none))) else
(bif Nat.blt pc 12 then
(bif Nat.beq pc 11 then en (.i2l) 0 0 0 0 else none) else
(bif Nat.blt pc 15 then
(bif Nat.beq pc 12 then en (.invokestatic 57) 151 1 1580 0 else none) else
(bif Nat.beq pc 15 then en (.ireturn) 0 0 0 0 else none))))) else none
/-- SingleTrackLineModel.isSection(I)Z -/
def mc156 (pc : Nat) : Option En := bif Nat.blt pc 16 then (bif Nat.blt pc 8 then
(bif Nat.blt pc 3 then
(bif Nat.blt pc 1 then
(bif Nat.beq pc 0 then en (.iload_n 1) 0 0 0 0 else none) else
(bif Nat.blt pc 2 then
(bif Nat.beq pc 1 then en (.i2l) 0 0 0 0 else none) else
(bif Nat.beq pc 2 then en (.lconst 0) 0 0 0 0 else none))) else
(bif Nat.blt pc 4 then
(bif Nat.beq pc 3 then en (.aload_n 0) 0 0 0 0 else none) else
(bif Nat.blt pc 7 then
(bif Nat.beq pc 4 then en (.getfield 9) 5 0 1493 0 else none) else
(bif Nat.beq pc 7 then en (.iconst 0) 0 0 0 0 else none)))) else
(bif Nat.blt pc 11 then
(bif Nat.blt pc 9 then
(bif Nat.beq pc 8 then en (.iaload) 0 0 0 0 else none) else
(bif Nat.blt pc 10 then
(bif Nat.beq pc 9 then en (.iconst 2) 0 0 0 0 else none) else
(bif Nat.beq pc 10 then en (.isub) 0 0 0 0 else none))) else
(bif Nat.blt pc 12 then
(bif Nat.beq pc 11 then en (.i2l) 0 0 0 0 else none) else
(bif Nat.blt pc 15 then
(bif Nat.beq pc 12 then en (.invokestatic 57) 151 1 1580 0 else none) else
(bif Nat.beq pc 15 then en (.ireturn) 0 0 0 0 else none))))) else none
/-- SingleTrackLineModel.find(I)I -/
def mc157 (pc : Nat) : Option En := bif Nat.blt pc 35 then (bif Nat.blt pc 16 then
(bif Nat.blt pc 7 then
(bif Nat.blt pc 2 then
(bif Nat.blt pc 1 then
(bif Nat.beq pc 0 then en (.iconst 0) 0 0 0 0 else none) else
(bif Nat.beq pc 1 then en (.istore_n 2) 0 0 0 0 else none)) else
(bif Nat.blt pc 3 then
(bif Nat.beq pc 2 then en (.iload_n 2) 0 0 0 0 else none) else
(bif Nat.blt pc 4 then
(bif Nat.beq pc 3 then en (.aload_n 0) 0 0 0 0 else none) else
(bif Nat.beq pc 4 then en (.getfield 9) 5 0 1493 0 else none)))) else
(bif Nat.blt pc 9 then
(bif Nat.blt pc 8 then
(bif Nat.beq pc 7 then en (.iconst 1) 0 0 0 0 else none) else
(bif Nat.beq pc 8 then en (.iaload) 0 0 0 0 else none)) else
(bif Nat.blt pc 12 then
(bif Nat.beq pc 9 then en (.if_icmp .ge 24) 33 0 0 0 else none) else
(bif Nat.blt pc 13 then
(bif Nat.beq pc 12 then en (.aload_n 0) 0 0 0 0 else none) else
(bif Nat.beq pc 13 then en (.getfield 9) 5 0 1493 0 else none))))) else
(bif Nat.blt pc 25 then
(bif Nat.blt pc 20 then
(bif Nat.blt pc 17 then
(bif Nat.beq pc 16 then en (.iload_n 2) 0 0 0 0 else none) else
(bif Nat.beq pc 17 then en (.invokestatic 61) 154 1 1612 0 else none)) else
(bif Nat.blt pc 21 then
(bif Nat.beq pc 20 then en (.iaload) 0 0 0 0 else none) else
(bif Nat.blt pc 22 then
(bif Nat.beq pc 21 then en (.iload_n 1) 0 0 0 0 else none) else
(bif Nat.beq pc 22 then en (.if_icmp .ne 5) 27 0 0 0 else none)))) else
(bif Nat.blt pc 30 then
(bif Nat.blt pc 26 then
(bif Nat.beq pc 25 then en (.iload_n 2) 0 0 0 0 else none) else
(bif Nat.blt pc 27 then
(bif Nat.beq pc 26 then en (.ireturn) 0 0 0 0 else none) else
(bif Nat.beq pc 27 then en (.iinc 2 1) 0 0 0 0 else none))) else
(bif Nat.blt pc 33 then
(bif Nat.beq pc 30 then en (.goto (-28)) 2 0 0 0 else none) else
(bif Nat.blt pc 34 then
(bif Nat.beq pc 33 then en (.iconst (-1)) 0 0 0 0 else none) else
(bif Nat.beq pc 34 then en (.ireturn) 0 0 0 0 else none)))))) else none
/-- SingleTrackLineModel.way(I)I -/
def mc158 (pc : Nat) : Option En := bif Nat.blt pc 31 then (bif Nat.blt pc 15 then
(bif Nat.blt pc 8 then
(bif Nat.blt pc 4 then
(bif Nat.blt pc 1 then
(bif Nat.beq pc 0 then en (.aload_n 0) 0 0 0 0 else none) else
(bif Nat.beq pc 1 then en (.getfield 9) 5 0 1493 0 else none)) else
(bif Nat.blt pc 5 then
(bif Nat.beq pc 4 then en (.iload_n 1) 0 0 0 0 else none) else
(bif Nat.beq pc 5 then en (.invokestatic 61) 154 1 1612 0 else none))) else
(bif Nat.blt pc 10 then
(bif Nat.blt pc 9 then
(bif Nat.beq pc 8 then en (.iconst 2) 0 0 0 0 else none) else
(bif Nat.beq pc 9 then en (.iadd) 0 0 0 0 else none)) else
(bif Nat.blt pc 11 then
(bif Nat.beq pc 10 then en (.iaload) 0 0 0 0 else none) else
(bif Nat.blt pc 12 then
(bif Nat.beq pc 11 then en (.aload_n 0) 0 0 0 0 else none) else
(bif Nat.beq pc 12 then en (.getfield 9) 5 0 1493 0 else none))))) else
(bif Nat.blt pc 22 then
(bif Nat.blt pc 19 then
(bif Nat.blt pc 16 then
(bif Nat.beq pc 15 then en (.iload_n 1) 0 0 0 0 else none) else
(bif Nat.beq pc 16 then en (.invokestatic 61) 154 1 1612 0 else none)) else
(bif Nat.blt pc 20 then
(bif Nat.beq pc 19 then en (.iconst 1) 0 0 0 0 else none) else
(bif Nat.blt pc 21 then
(bif Nat.beq pc 20 then en (.iadd) 0 0 0 0 else none) else
(bif Nat.beq pc 21 then en (.iaload) 0 0 0 0 else none)))) else
(bif Nat.blt pc 26 then
(bif Nat.blt pc 25 then
(bif Nat.beq pc 22 then en (.if_icmp .le 7) 29 0 0 0 else none) else
(bif Nat.beq pc 25 then en (.iconst 1) 0 0 0 0 else none)) else
(bif Nat.blt pc 29 then
(bif Nat.beq pc 26 then en (.goto 4) 30 0 0 0 else none) else
(bif Nat.blt pc 30 then
(bif Nat.beq pc 29 then en (.iconst (-1)) 0 0 0 0 else none) else
(bif Nat.beq pc 30 then en (.ireturn) 0 0 0 0 else none)))))) else none
/-- SingleTrackLineModel.ahead(I)I -/
def mc159 (pc : Nat) : Option En := bif Nat.blt pc 26 then (bif Nat.blt pc 12 then
(bif Nat.blt pc 8 then
(bif Nat.blt pc 4 then
(bif Nat.blt pc 1 then
(bif Nat.beq pc 0 then en (.aload_n 0) 0 0 0 0 else none) else
(bif Nat.beq pc 1 then en (.getfield 9) 5 0 1493 0 else none)) else
(bif Nat.blt pc 5 then
(bif Nat.beq pc 4 then en (.iload_n 1) 0 0 0 0 else none) else
(bif Nat.beq pc 5 then en (.invokestatic 61) 154 1 1612 0 else none))) else
(bif Nat.blt pc 10 then
(bif Nat.blt pc 9 then
(bif Nat.beq pc 8 then en (.iconst 5) 0 0 0 0 else none) else
(bif Nat.beq pc 9 then en (.iadd) 0 0 0 0 else none)) else
(bif Nat.blt pc 11 then
(bif Nat.beq pc 10 then en (.iaload) 0 0 0 0 else none) else
(bif Nat.beq pc 11 then en (.aload_n 0) 0 0 0 0 else none)))) else
(bif Nat.blt pc 20 then
(bif Nat.blt pc 16 then
(bif Nat.blt pc 13 then
(bif Nat.beq pc 12 then en (.iload_n 1) 0 0 0 0 else none) else
(bif Nat.beq pc 13 then en (.invokevirtual 65) 158 0 1619 4105 else none)) else
(bif Nat.blt pc 19 then
(bif Nat.beq pc 16 then en (.ifCond .le 7) 23 0 0 0 else none) else
(bif Nat.beq pc 19 then en (.iconst 1) 0 0 0 0 else none))) else
(bif Nat.blt pc 24 then
(bif Nat.blt pc 23 then
(bif Nat.beq pc 20 then en (.goto 4) 24 0 0 0 else none) else
(bif Nat.beq pc 23 then en (.iconst 0) 0 0 0 0 else none)) else
(bif Nat.blt pc 25 then
(bif Nat.beq pc 24 then en (.iadd) 0 0 0 0 else none) else
(bif Nat.beq pc 25 then en (.ireturn) 0 0 0 0 else none))))) else none
/-- SingleTrackLineModel.holder(I)I -/
def mc160 (pc : Nat) : Option En := bif Nat.blt pc 52 then (bif Nat.blt pc 24 then
(bif Nat.blt pc 12 then
(bif Nat.blt pc 4 then
(bif Nat.blt pc 2 then
(bif Nat.blt pc 1 then
(bif Nat.beq pc 0 then en (.iconst 0) 0 0 0 0 else none) else
(bif Nat.beq pc 1 then en (.istore_n 2) 0 0 0 0 else none)) else
(bif Nat.blt pc 3 then
(bif Nat.beq pc 2 then en (.iload_n 2) 0 0 0 0 else none) else
(bif Nat.beq pc 3 then en (.aload_n 0) 0 0 0 0 else none))) else
(bif Nat.blt pc 8 then
(bif Nat.blt pc 7 then
(bif Nat.beq pc 4 then en (.getfield 9) 5 0 1493 0 else none) else
(bif Nat.beq pc 7 then en (.iconst 1) 0 0 0 0 else none)) else
(bif Nat.blt pc 9 then
(bif Nat.beq pc 8 then en (.iaload) 0 0 0 0 else none) else
(bif Nat.beq pc 9 then en (.if_icmp .ge 41) 50 0 0 0 else none)))) else
(bif Nat.blt pc 20 then
(bif Nat.blt pc 16 then
(bif Nat.blt pc 13 then
(bif Nat.beq pc 12 then en (.aload_n 0) 0 0 0 0 else none) else
(bif Nat.beq pc 13 then en (.getfield 9) 5 0 1493 0 else none)) else
(bif Nat.blt pc 17 then
(bif Nat.beq pc 16 then en (.iload_n 2) 0 0 0 0 else none) else
(bif Nat.beq pc 17 then en (.invokestatic 61) 154 1 1612 0 else none))) else
(bif Nat.blt pc 22 then
(bif Nat.blt pc 21 then
(bif Nat.beq pc 20 then en (.iconst 4) 0 0 0 0 else none) else
(bif Nat.beq pc 21 then en (.iadd) 0 0 0 0 else none)) else
(bif Nat.blt pc 23 then
(bif Nat.beq pc 22 then en (.iaload) 0 0 0 0 else none) else
(bif Nat.beq pc 23 then en (.iconst 2) 0 0 0 0 else none))))) else
(bif Nat.blt pc 38 then
(bif Nat.blt pc 32 then
(bif Nat.blt pc 28 then
(bif Nat.blt pc 27 then
(bif Nat.beq pc 24 then en (.if_icmp .ne 20) 44 0 0 0 else none) else
(bif Nat.beq pc 27 then en (.aload_n 0) 0 0 0 0 else none)) else
(bif Nat.blt pc 31 then
(bif Nat.beq pc 28 then en (.getfield 9) 5 0 1493 0 else none) else
(bif Nat.beq pc 31 then en (.iload_n 2) 0 0 0 0 else none))) else
(bif Nat.blt pc 36 then
(bif Nat.blt pc 35 then
(bif Nat.beq pc 32 then en (.invokestatic 61) 154 1 1612 0 else none) else
(bif Nat.beq pc 35 then en (.iconst 5) 0 0 0 0 else none)) else
(bif Nat.blt pc 37 then
(bif Nat.beq pc 36 then en (.iadd) 0 0 0 0 else none) else
(bif Nat.beq pc 37 then en (.iaload) 0 0 0 0 else none)))) else
(bif Nat.blt pc 44 then
(bif Nat.blt pc 42 then
(bif Nat.blt pc 39 then
(bif Nat.beq pc 38 then en (.iload_n 1) 0 0 0 0 else none) else
(bif Nat.beq pc 39 then en (.if_icmp .ne 5) 44 0 0 0 else none)) else
(bif Nat.blt pc 43 then
(bif Nat.beq pc 42 then en (.iload_n 2) 0 0 0 0 else none) else
(bif Nat.beq pc 43 then en (.ireturn) 0 0 0 0 else none))) else
(bif Nat.blt pc 50 then
(bif Nat.blt pc 47 then
(bif Nat.beq pc 44 then en (.iinc 2 1) 0 0 0 0 else none) else
(bif Nat.beq pc 47 then en (.goto (-45)) 2 0 0 0 else none)) else
(bif Nat.blt pc 51 then
(bif Nat.beq pc 50 then en (.iconst (-1)) 0 0 0 0 else none) else
(bif Nat.beq pc 51 then en (.ireturn) 0 0 0 0 else none)))))) else none
/-- SingleTrackLineModel.standing(I)I -/
def mc161 (pc : Nat) : Option En := bif Nat.blt pc 60 then (bif Nat.blt pc 27 then
(bif Nat.blt pc 11 then
(bif Nat.blt pc 4 then
(bif Nat.blt pc 2 then
(bif Nat.blt pc 1 then
(bif Nat.beq pc 0 then en (.iconst 0) 0 0 0 0 else none) else
(bif Nat.beq pc 1 then en (.istore_n 2) 0 0 0 0 else none)) else
(bif Nat.blt pc 3 then
(bif Nat.beq pc 2 then en (.iconst 0) 0 0 0 0 else none) else
(bif Nat.beq pc 3 then en (.istore_n 3) 0 0 0 0 else none))) else
(bif Nat.blt pc 6 then
(bif Nat.blt pc 5 then
(bif Nat.beq pc 4 then en (.iload_n 3) 0 0 0 0 else none) else
(bif Nat.beq pc 5 then en (.aload_n 0) 0 0 0 0 else none)) else
(bif Nat.blt pc 9 then
(bif Nat.beq pc 6 then en (.getfield 9) 5 0 1493 0 else none) else
(bif Nat.blt pc 10 then
(bif Nat.beq pc 9 then en (.iconst 1) 0 0 0 0 else none) else
(bif Nat.beq pc 10 then en (.iaload) 0 0 0 0 else none))))) else
(bif Nat.blt pc 20 then
(bif Nat.blt pc 15 then
(bif Nat.blt pc 14 then
(bif Nat.beq pc 11 then en (.if_icmp .ge 47) 58 0 0 0 else none) else
(bif Nat.beq pc 14 then en (.iload_n 2) 0 0 0 0 else none)) else
(bif Nat.blt pc 16 then
(bif Nat.beq pc 15 then en (.aload_n 0) 0 0 0 0 else none) else
(bif Nat.blt pc 19 then
(bif Nat.beq pc 16 then en (.getfield 9) 5 0 1493 0 else none) else
(bif Nat.beq pc 19 then en (.iload_n 3) 0 0 0 0 else none)))) else
(bif Nat.blt pc 24 then
(bif Nat.blt pc 23 then
(bif Nat.beq pc 20 then en (.invokestatic 61) 154 1 1612 0 else none) else
(bif Nat.beq pc 23 then en (.iconst 4) 0 0 0 0 else none)) else
(bif Nat.blt pc 25 then
(bif Nat.beq pc 24 then en (.iadd) 0 0 0 0 else none) else
(bif Nat.blt pc 26 then
(bif Nat.beq pc 25 then en (.iaload) 0 0 0 0 else none) else
(bif Nat.beq pc 26 then en (.iconst 1) 0 0 0 0 else none)))))) else
(bif Nat.blt pc 42 then
(bif Nat.blt pc 35 then
(bif Nat.blt pc 31 then
(bif Nat.blt pc 30 then
(bif Nat.beq pc 27 then en (.if_icmp .ne 22) 49 0 0 0 else none) else
(bif Nat.beq pc 30 then en (.aload_n 0) 0 0 0 0 else none)) else
(bif Nat.blt pc 34 then
(bif Nat.beq pc 31 then en (.getfield 9) 5 0 1493 0 else none) else
(bif Nat.beq pc 34 then en (.iload_n 3) 0 0 0 0 else none))) else
(bif Nat.blt pc 39 then
(bif Nat.blt pc 38 then
(bif Nat.beq pc 35 then en (.invokestatic 61) 154 1 1612 0 else none) else
(bif Nat.beq pc 38 then en (.iconst 5) 0 0 0 0 else none)) else
(bif Nat.blt pc 40 then
(bif Nat.beq pc 39 then en (.iadd) 0 0 0 0 else none) else
(bif Nat.blt pc 41 then
(bif Nat.beq pc 40 then en (.iaload) 0 0 0 0 else none) else
(bif Nat.beq pc 41 then en (.iload_n 1) 0 0 0 0 else none))))) else
(bif Nat.blt pc 51 then
(bif Nat.blt pc 46 then
(bif Nat.blt pc 45 then
(bif Nat.beq pc 42 then en (.if_icmp .ne 7) 49 0 0 0 else none) else
(bif Nat.beq pc 45 then en (.iconst 1) 0 0 0 0 else none)) else
(bif Nat.blt pc 49 then
(bif Nat.beq pc 46 then en (.goto 4) 50 0 0 0 else none) else
(bif Nat.blt pc 50 then
(bif Nat.beq pc 49 then en (.iconst 0) 0 0 0 0 else none) else
(bif Nat.beq pc 50 then en (.iadd) 0 0 0 0 else none)))) else
(bif Nat.blt pc 55 then
(bif Nat.blt pc 52 then
(bif Nat.beq pc 51 then en (.istore_n 2) 0 0 0 0 else none) else
(bif Nat.beq pc 52 then en (.iinc 3 1) 0 0 0 0 else none)) else
(bif Nat.blt pc 58 then
(bif Nat.beq pc 55 then en (.goto (-51)) 4 0 0 0 else none) else
(bif Nat.blt pc 59 then
(bif Nat.beq pc 58 then en (.iload_n 2) 0 0 0 0 else none) else
(bif Nat.beq pc 59 then en (.ireturn) 0 0 0 0 else none))))))) else none
/-- SingleTrackLineModel.taken(I)I -/
def mc162 (pc : Nat) : Option En := bif Nat.blt pc 85 then (bif Nat.blt pc 39 then
(bif Nat.blt pc 18 then
(bif Nat.blt pc 8 then
(bif Nat.blt pc 5 then
(bif Nat.blt pc 1 then
(bif Nat.beq pc 0 then en (.aload_n 0) 0 0 0 0 else none) else
(bif Nat.blt pc 2 then
(bif Nat.beq pc 1 then en (.iload_n 1) 0 0 0 0 else none) else
(bif Nat.beq pc 2 then en (.invokevirtual 68) 161 0 1608 3905 else none))) else
(bif Nat.blt pc 6 then
(bif Nat.beq pc 5 then en (.istore_n 2) 0 0 0 0 else none) else
(bif Nat.blt pc 7 then
(bif Nat.beq pc 6 then en (.iconst 0) 0 0 0 0 else none) else
(bif Nat.beq pc 7 then en (.istore_n 3) 0 0 0 0 else none)))) else
(bif Nat.blt pc 13 then
(bif Nat.blt pc 9 then
(bif Nat.beq pc 8 then en (.iload_n 3) 0 0 0 0 else none) else
(bif Nat.blt pc 10 then
(bif Nat.beq pc 9 then en (.aload_n 0) 0 0 0 0 else none) else
(bif Nat.beq pc 10 then en (.getfield 9) 5 0 1493 0 else none))) else
(bif Nat.blt pc 14 then
(bif Nat.beq pc 13 then en (.iconst 1) 0 0 0 0 else none) else
(bif Nat.blt pc 15 then
(bif Nat.beq pc 14 then en (.iaload) 0 0 0 0 else none) else
(bif Nat.beq pc 15 then en (.if_icmp .ge 68) 83 0 0 0 else none))))) else
(bif Nat.blt pc 28 then
(bif Nat.blt pc 23 then
(bif Nat.blt pc 19 then
(bif Nat.beq pc 18 then en (.aload_n 0) 0 0 0 0 else none) else
(bif Nat.blt pc 22 then
(bif Nat.beq pc 19 then en (.getfield 9) 5 0 1493 0 else none) else
(bif Nat.beq pc 22 then en (.iload_n 3) 0 0 0 0 else none))) else
(bif Nat.blt pc 26 then
(bif Nat.beq pc 23 then en (.invokestatic 61) 154 1 1612 0 else none) else
(bif Nat.blt pc 27 then
(bif Nat.beq pc 26 then en (.iconst 4) 0 0 0 0 else none) else
(bif Nat.beq pc 27 then en (.iadd) 0 0 0 0 else none)))) else
(bif Nat.blt pc 33 then
(bif Nat.blt pc 29 then
(bif Nat.beq pc 28 then en (.iaload) 0 0 0 0 else none) else
(bif Nat.blt pc 30 then
(bif Nat.beq pc 29 then en (.iconst 2) 0 0 0 0 else none) else
(bif Nat.beq pc 30 then en (.if_icmp .ne 16) 46 0 0 0 else none))) else
(bif Nat.blt pc 35 then
(bif Nat.blt pc 34 then
(bif Nat.beq pc 33 then en (.aload_n 0) 0 0 0 0 else none) else
(bif Nat.beq pc 34 then en (.iload_n 3) 0 0 0 0 else none)) else
(bif Nat.blt pc 38 then
(bif Nat.beq pc 35 then en (.invokevirtual 71) 159 0 1615 4005 else none) else
(bif Nat.beq pc 38 then en (.iload_n 1) 0 0 0 0 else none)))))) else
(bif Nat.blt pc 64 then
(bif Nat.blt pc 50 then
(bif Nat.blt pc 46 then
(bif Nat.blt pc 42 then
(bif Nat.beq pc 39 then en (.if_icmp .ne 7) 46 0 0 0 else none) else
(bif Nat.blt pc 43 then
(bif Nat.beq pc 42 then en (.iconst 1) 0 0 0 0 else none) else
(bif Nat.beq pc 43 then en (.goto 4) 47 0 0 0 else none))) else
(bif Nat.blt pc 47 then
(bif Nat.beq pc 46 then en (.iconst 0) 0 0 0 0 else none) else
(bif Nat.blt pc 49 then
(bif Nat.beq pc 47 then en (.istore 4) 0 0 0 0 else none) else
(bif Nat.beq pc 49 then en (.iload_n 2) 0 0 0 0 else none)))) else
(bif Nat.blt pc 56 then
(bif Nat.blt pc 52 then
(bif Nat.beq pc 50 then en (.iload 4) 0 0 0 0 else none) else
(bif Nat.blt pc 55 then
(bif Nat.beq pc 52 then en (.ifCond .eq 22) 74 0 0 0 else none) else
(bif Nat.beq pc 55 then en (.aload_n 0) 0 0 0 0 else none))) else
(bif Nat.blt pc 60 then
(bif Nat.blt pc 59 then
(bif Nat.beq pc 56 then en (.getfield 9) 5 0 1493 0 else none) else
(bif Nat.beq pc 59 then en (.iload_n 3) 0 0 0 0 else none)) else
(bif Nat.blt pc 63 then
(bif Nat.beq pc 60 then en (.invokestatic 61) 154 1 1612 0 else none) else
(bif Nat.beq pc 63 then en (.iconst 2) 0 0 0 0 else none))))) else
(bif Nat.blt pc 74 then
(bif Nat.blt pc 67 then
(bif Nat.blt pc 65 then
(bif Nat.beq pc 64 then en (.iadd) 0 0 0 0 else none) else
(bif Nat.blt pc 66 then
(bif Nat.beq pc 65 then en (.iaload) 0 0 0 0 else none) else
(bif Nat.beq pc 66 then en (.iload_n 1) 0 0 0 0 else none))) else
(bif Nat.blt pc 70 then
(bif Nat.beq pc 67 then en (.if_icmp .eq 7) 74 0 0 0 else none) else
(bif Nat.blt pc 71 then
(bif Nat.beq pc 70 then en (.iconst 1) 0 0 0 0 else none) else
(bif Nat.beq pc 71 then en (.goto 4) 75 0 0 0 else none)))) else
(bif Nat.blt pc 77 then
(bif Nat.blt pc 75 then
(bif Nat.beq pc 74 then en (.iconst 0) 0 0 0 0 else none) else
(bif Nat.blt pc 76 then
(bif Nat.beq pc 75 then en (.iadd) 0 0 0 0 else none) else
(bif Nat.beq pc 76 then en (.istore_n 2) 0 0 0 0 else none))) else
(bif Nat.blt pc 83 then
(bif Nat.blt pc 80 then
(bif Nat.beq pc 77 then en (.iinc 3 1) 0 0 0 0 else none) else
(bif Nat.beq pc 80 then en (.goto (-72)) 8 0 0 0 else none)) else
(bif Nat.blt pc 84 then
(bif Nat.beq pc 83 then en (.iload_n 2) 0 0 0 0 else none) else
(bif Nat.beq pc 84 then en (.ireturn) 0 0 0 0 else none))))))) else none
/-- SingleTrackLineModel.free(I)I -/
def mc163 (pc : Nat) : Option En := bif Nat.blt pc 16 then (bif Nat.blt pc 8 then
(bif Nat.blt pc 4 then
(bif Nat.blt pc 1 then
(bif Nat.beq pc 0 then en (.aload_n 0) 0 0 0 0 else none) else
(bif Nat.beq pc 1 then en (.getfield 9) 5 0 1493 0 else none)) else
(bif Nat.blt pc 6 then
(bif Nat.beq pc 4 then en (.bipush 9) 0 0 0 0 else none) else
(bif Nat.blt pc 7 then
(bif Nat.beq pc 6 then en (.iload_n 1) 0 0 0 0 else none) else
(bif Nat.beq pc 7 then en (.iadd) 0 0 0 0 else none)))) else
(bif Nat.blt pc 11 then
(bif Nat.blt pc 9 then
(bif Nat.beq pc 8 then en (.iaload) 0 0 0 0 else none) else
(bif Nat.blt pc 10 then
(bif Nat.beq pc 9 then en (.aload_n 0) 0 0 0 0 else none) else
(bif Nat.beq pc 10 then en (.iload_n 1) 0 0 0 0 else none))) else
(bif Nat.blt pc 14 then
(bif Nat.beq pc 11 then en (.invokevirtual 74) 162 0 1604 3805 else none) else
(bif Nat.blt pc 15 then
(bif Nat.beq pc 14 then en (.isub) 0 0 0 0 else none) else
(bif Nat.beq pc 15 then en (.ireturn) 0 0 0 0 else none))))) else none
/-- SingleTrackLineModel.between(II)I -/
def mc164 (pc : Nat) : Option En := bif Nat.blt pc 40 then (bif Nat.blt pc 20 then
(bif Nat.blt pc 9 then
(bif Nat.blt pc 3 then
(bif Nat.blt pc 1 then
(bif Nat.beq pc 0 then en (.iconst 0) 0 0 0 0 else none) else
(bif Nat.blt pc 2 then
(bif Nat.beq pc 1 then en (.istore_n 3) 0 0 0 0 else none) else
(bif Nat.beq pc 2 then en (.iload_n 1) 0 0 0 0 else none))) else
(bif Nat.blt pc 4 then
(bif Nat.beq pc 3 then en (.iload_n 2) 0 0 0 0 else none) else
(bif Nat.blt pc 7 then
(bif Nat.beq pc 4 then en (.invokestatic 77) 0 9 1697 0 else none) else
(bif Nat.beq pc 7 then en (.istore 4) 0 0 0 0 else none)))) else
(bif Nat.blt pc 13 then
(bif Nat.blt pc 11 then
(bif Nat.beq pc 9 then en (.iload 4) 0 0 0 0 else none) else
(bif Nat.blt pc 12 then
(bif Nat.beq pc 11 then en (.iload_n 1) 0 0 0 0 else none) else
(bif Nat.beq pc 12 then en (.iload_n 2) 0 0 0 0 else none))) else
(bif Nat.blt pc 16 then
(bif Nat.beq pc 13 then en (.invokestatic 83) 0 8 1698 0 else none) else
(bif Nat.blt pc 19 then
(bif Nat.beq pc 16 then en (.if_icmp .ge 22) 38 0 0 0 else none) else
(bif Nat.beq pc 19 then en (.iload_n 3) 0 0 0 0 else none))))) else
(bif Nat.blt pc 30 then
(bif Nat.blt pc 26 then
(bif Nat.blt pc 21 then
(bif Nat.beq pc 20 then en (.aload_n 0) 0 0 0 0 else none) else
(bif Nat.blt pc 24 then
(bif Nat.beq pc 21 then en (.getfield 9) 5 0 1493 0 else none) else
(bif Nat.beq pc 24 then en (.bipush 16) 0 0 0 0 else none))) else
(bif Nat.blt pc 28 then
(bif Nat.beq pc 26 then en (.iload 4) 0 0 0 0 else none) else
(bif Nat.blt pc 29 then
(bif Nat.beq pc 28 then en (.iadd) 0 0 0 0 else none) else
(bif Nat.beq pc 29 then en (.iaload) 0 0 0 0 else none)))) else
(bif Nat.blt pc 35 then
(bif Nat.blt pc 31 then
(bif Nat.beq pc 30 then en (.iadd) 0 0 0 0 else none) else
(bif Nat.blt pc 32 then
(bif Nat.beq pc 31 then en (.istore_n 3) 0 0 0 0 else none) else
(bif Nat.beq pc 32 then en (.iinc 4 1) 0 0 0 0 else none))) else
(bif Nat.blt pc 38 then
(bif Nat.beq pc 35 then en (.goto (-26)) 9 0 0 0 else none) else
(bif Nat.blt pc 39 then
(bif Nat.beq pc 38 then en (.iload_n 3) 0 0 0 0 else none) else
(bif Nat.beq pc 39 then en (.ireturn) 0 0 0 0 else none)))))) else none
/-- SingleTrackLineModel.planned(I)I -/
def mc165 (pc : Nat) : Option En := bif Nat.blt pc 50 then (bif Nat.blt pc 25 then
(bif Nat.blt pc 12 then
(bif Nat.blt pc 8 then
(bif Nat.blt pc 4 then
(bif Nat.blt pc 1 then
(bif Nat.beq pc 0 then en (.aload_n 0) 0 0 0 0 else none) else
(bif Nat.beq pc 1 then en (.getfield 9) 5 0 1493 0 else none)) else
(bif Nat.blt pc 5 then
(bif Nat.beq pc 4 then en (.iload_n 1) 0 0 0 0 else none) else
(bif Nat.beq pc 5 then en (.invokestatic 61) 154 1 1612 0 else none))) else
(bif Nat.blt pc 10 then
(bif Nat.blt pc 9 then
(bif Nat.beq pc 8 then en (.iconst 1) 0 0 0 0 else none) else
(bif Nat.beq pc 9 then en (.iadd) 0 0 0 0 else none)) else
(bif Nat.blt pc 11 then
(bif Nat.beq pc 10 then en (.iaload) 0 0 0 0 else none) else
(bif Nat.beq pc 11 then en (.istore_n 2) 0 0 0 0 else none)))) else
(bif Nat.blt pc 20 then
(bif Nat.blt pc 16 then
(bif Nat.blt pc 13 then
(bif Nat.beq pc 12 then en (.aload_n 0) 0 0 0 0 else none) else
(bif Nat.beq pc 13 then en (.getfield 9) 5 0 1493 0 else none)) else
(bif Nat.blt pc 17 then
(bif Nat.beq pc 16 then en (.iload_n 1) 0 0 0 0 else none) else
(bif Nat.beq pc 17 then en (.invokestatic 61) 154 1 1612 0 else none))) else
(bif Nat.blt pc 22 then
(bif Nat.blt pc 21 then
(bif Nat.beq pc 20 then en (.iconst 2) 0 0 0 0 else none) else
(bif Nat.beq pc 21 then en (.iadd) 0 0 0 0 else none)) else
(bif Nat.blt pc 23 then
(bif Nat.beq pc 22 then en (.iaload) 0 0 0 0 else none) else
(bif Nat.blt pc 24 then
(bif Nat.beq pc 23 then en (.istore_n 3) 0 0 0 0 else none) else
(bif Nat.beq pc 24 then en (.aload_n 0) 0 0 0 0 else none)))))) else
(bif Nat.blt pc 37 then
(bif Nat.blt pc 33 then
(bif Nat.blt pc 29 then
(bif Nat.blt pc 28 then
(bif Nat.beq pc 25 then en (.getfield 9) 5 0 1493 0 else none) else
(bif Nat.beq pc 28 then en (.iload_n 1) 0 0 0 0 else none)) else
(bif Nat.blt pc 32 then
(bif Nat.beq pc 29 then en (.invokestatic 61) 154 1 1612 0 else none) else
(bif Nat.beq pc 32 then en (.iconst 3) 0 0 0 0 else none))) else
(bif Nat.blt pc 35 then
(bif Nat.blt pc 34 then
(bif Nat.beq pc 33 then en (.iadd) 0 0 0 0 else none) else
(bif Nat.beq pc 34 then en (.iaload) 0 0 0 0 else none)) else
(bif Nat.blt pc 36 then
(bif Nat.beq pc 35 then en (.aload_n 0) 0 0 0 0 else none) else
(bif Nat.beq pc 36 then en (.iload_n 2) 0 0 0 0 else none)))) else
(bif Nat.blt pc 43 then
(bif Nat.blt pc 41 then
(bif Nat.blt pc 38 then
(bif Nat.beq pc 37 then en (.iload_n 3) 0 0 0 0 else none) else
(bif Nat.beq pc 38 then en (.invokevirtual 86) 164 0 1693 5405 else none)) else
(bif Nat.blt pc 42 then
(bif Nat.beq pc 41 then en (.iadd) 0 0 0 0 else none) else
(bif Nat.beq pc 42 then en (.iload_n 3) 0 0 0 0 else none))) else
(bif Nat.blt pc 45 then
(bif Nat.blt pc 44 then
(bif Nat.beq pc 43 then en (.iload_n 2) 0 0 0 0 else none) else
(bif Nat.beq pc 44 then en (.isub) 0 0 0 0 else none)) else
(bif Nat.blt pc 48 then
(bif Nat.beq pc 45 then en (.invokestatic 89) 0 10 1699 0 else none) else
(bif Nat.blt pc 49 then
(bif Nat.beq pc 48 then en (.iadd) 0 0 0 0 else none) else
(bif Nat.beq pc 49 then en (.ireturn) 0 0 0 0 else none))))))) else none
/-- SingleTrackLineModel.leavesLine(I)V -/
def mc166 (pc : Nat) : Option En := bif Nat.blt pc 65 then (bif Nat.blt pc 34 then
(bif Nat.blt pc 16 then
(bif Nat.blt pc 6 then
(bif Nat.blt pc 4 then
(bif Nat.blt pc 1 then
(bif Nat.beq pc 0 then en (.iload_n 1) 0 0 0 0 else none) else
(bif Nat.beq pc 1 then en (.invokestatic 61) 154 1 1612 0 else none)) else
(bif Nat.blt pc 5 then
(bif Nat.beq pc 4 then en (.istore_n 2) 0 0 0 0 else none) else
(bif Nat.beq pc 5 then en (.iload_n 2) 0 0 0 0 else none))) else
(bif Nat.blt pc 11 then
(bif Nat.blt pc 8 then
(bif Nat.beq pc 6 then en (.bipush 67) 0 0 0 0 else none) else
(bif Nat.beq pc 8 then en (.if_icmp .ge 24) 32 0 0 0 else none)) else
(bif Nat.blt pc 12 then
(bif Nat.beq pc 11 then en (.aload_n 0) 0 0 0 0 else none) else
(bif Nat.blt pc 15 then
(bif Nat.beq pc 12 then en (.getfield 9) 5 0 1493 0 else none) else
(bif Nat.beq pc 15 then en (.iload_n 2) 0 0 0 0 else none))))) else
(bif Nat.blt pc 24 then
(bif Nat.blt pc 20 then
(bif Nat.blt pc 17 then
(bif Nat.beq pc 16 then en (.aload_n 0) 0 0 0 0 else none) else
(bif Nat.beq pc 17 then en (.getfield 9) 5 0 1493 0 else none)) else
(bif Nat.blt pc 21 then
(bif Nat.beq pc 20 then en (.iload_n 2) 0 0 0 0 else none) else
(bif Nat.blt pc 23 then
(bif Nat.beq pc 21 then en (.bipush 9) 0 0 0 0 else none) else
(bif Nat.beq pc 23 then en (.iadd) 0 0 0 0 else none)))) else
(bif Nat.blt pc 26 then
(bif Nat.blt pc 25 then
(bif Nat.beq pc 24 then en (.iaload) 0 0 0 0 else none) else
(bif Nat.beq pc 25 then en (.iastore) 0 0 0 0 else none)) else
(bif Nat.blt pc 29 then
(bif Nat.beq pc 26 then en (.iinc 2 1) 0 0 0 0 else none) else
(bif Nat.blt pc 32 then
(bif Nat.beq pc 29 then en (.goto (-24)) 5 0 0 0 else none) else
(bif Nat.beq pc 32 then en (.bipush 67) 0 0 0 0 else none)))))) else
(bif Nat.blt pc 51 then
(bif Nat.blt pc 42 then
(bif Nat.blt pc 36 then
(bif Nat.blt pc 35 then
(bif Nat.beq pc 34 then en (.istore_n 2) 0 0 0 0 else none) else
(bif Nat.beq pc 35 then en (.iload_n 2) 0 0 0 0 else none)) else
(bif Nat.blt pc 38 then
(bif Nat.beq pc 36 then en (.bipush 76) 0 0 0 0 else none) else
(bif Nat.blt pc 41 then
(bif Nat.beq pc 38 then en (.if_icmp .ge 16) 54 0 0 0 else none) else
(bif Nat.beq pc 41 then en (.aload_n 0) 0 0 0 0 else none)))) else
(bif Nat.blt pc 46 then
(bif Nat.blt pc 45 then
(bif Nat.beq pc 42 then en (.getfield 9) 5 0 1493 0 else none) else
(bif Nat.beq pc 45 then en (.iload_n 2) 0 0 0 0 else none)) else
(bif Nat.blt pc 47 then
(bif Nat.beq pc 46 then en (.iconst 0) 0 0 0 0 else none) else
(bif Nat.blt pc 48 then
(bif Nat.beq pc 47 then en (.iastore) 0 0 0 0 else none) else
(bif Nat.beq pc 48 then en (.iinc 2 1) 0 0 0 0 else none))))) else
(bif Nat.blt pc 60 then
(bif Nat.blt pc 55 then
(bif Nat.blt pc 54 then
(bif Nat.beq pc 51 then en (.goto (-16)) 35 0 0 0 else none) else
(bif Nat.beq pc 54 then en (.aload_n 0) 0 0 0 0 else none)) else
(bif Nat.blt pc 58 then
(bif Nat.beq pc 55 then en (.getfield 9) 5 0 1493 0 else none) else
(bif Nat.blt pc 59 then
(bif Nat.beq pc 58 then en (.iconst 1) 0 0 0 0 else none) else
(bif Nat.beq pc 59 then en (.dup2) 0 0 0 0 else none)))) else
(bif Nat.blt pc 62 then
(bif Nat.blt pc 61 then
(bif Nat.beq pc 60 then en (.iaload) 0 0 0 0 else none) else
(bif Nat.beq pc 61 then en (.iconst 1) 0 0 0 0 else none)) else
(bif Nat.blt pc 63 then
(bif Nat.beq pc 62 then en (.isub) 0 0 0 0 else none) else
(bif Nat.blt pc 64 then
(bif Nat.beq pc 63 then en (.iastore) 0 0 0 0 else none) else
(bif Nat.beq pc 64 then en (.return_) 0 0 0 0 else none))))))) else none
/-- SingleTrackLineModel.stationIt(II)I -/
def mc167 (pc : Nat) : Option En := bif Nat.blt pc 107 then (bif Nat.blt pc 60 then
(bif Nat.blt pc 31 then
(bif Nat.blt pc 14 then
(bif Nat.blt pc 6 then
(bif Nat.blt pc 2 then
(bif Nat.blt pc 1 then
(bif Nat.beq pc 0 then en (.iload_n 1) 0 0 0 0 else none) else
(bif Nat.beq pc 1 then en (.i2l) 0 0 0 0 else none)) else
(bif Nat.blt pc 3 then
(bif Nat.beq pc 2 then en (.lconst 1) 0 0 0 0 else none) else
(bif Nat.beq pc 3 then en (.ldc2_w 92) 4 0 1579 0 else none))) else
(bif Nat.blt pc 12 then
(bif Nat.blt pc 9 then
(bif Nat.beq pc 6 then en (.invokestatic 57) 151 1 1580 0 else none) else
(bif Nat.beq pc 9 then en (.ifCond .eq 15) 24 0 0 0 else none)) else
(bif Nat.blt pc 13 then
(bif Nat.beq pc 12 then en (.iload_n 2) 0 0 0 0 else none) else
(bif Nat.beq pc 13 then en (.i2l) 0 0 0 0 else none)))) else
(bif Nat.blt pc 24 then
(bif Nat.blt pc 18 then
(bif Nat.blt pc 15 then
(bif Nat.beq pc 14 then en (.lconst 1) 0 0 0 0 else none) else
(bif Nat.beq pc 15 then en (.ldc2_w 94) 30 0 1583 0 else none)) else
(bif Nat.blt pc 21 then
(bif Nat.beq pc 18 then en (.invokestatic 57) 151 1 1580 0 else none) else
(bif Nat.beq pc 21 then en (.ifCond .ne 9) 30 0 0 0 else none))) else
(bif Nat.blt pc 26 then
(bif Nat.blt pc 25 then
(bif Nat.beq pc 24 then en (.aload_n 0) 0 0 0 0 else none) else
(bif Nat.beq pc 25 then en (.iconst 1) 0 0 0 0 else none)) else
(bif Nat.blt pc 29 then
(bif Nat.beq pc 26 then en (.invokevirtual 96) 150 0 1584 3405 else none) else
(bif Nat.blt pc 30 then
(bif Nat.beq pc 29 then en (.ireturn) 0 0 0 0 else none) else
(bif Nat.beq pc 30 then en (.aload_n 0) 0 0 0 0 else none)))))) else
(bif Nat.blt pc 46 then
(bif Nat.blt pc 38 then
(bif Nat.blt pc 35 then
(bif Nat.blt pc 34 then
(bif Nat.beq pc 31 then en (.getfield 9) 5 0 1493 0 else none) else
(bif Nat.beq pc 34 then en (.iconst 0) 0 0 0 0 else none)) else
(bif Nat.blt pc 36 then
(bif Nat.beq pc 35 then en (.iaload) 0 0 0 0 else none) else
(bif Nat.beq pc 36 then en (.bipush 7) 0 0 0 0 else none))) else
(bif Nat.blt pc 42 then
(bif Nat.blt pc 41 then
(bif Nat.beq pc 38 then en (.if_icmp .ne 9) 47 0 0 0 else none) else
(bif Nat.beq pc 41 then en (.aload_n 0) 0 0 0 0 else none)) else
(bif Nat.blt pc 43 then
(bif Nat.beq pc 42 then en (.iconst 2) 0 0 0 0 else none) else
(bif Nat.beq pc 43 then en (.invokevirtual 96) 150 0 1584 3405 else none)))) else
(bif Nat.blt pc 53 then
(bif Nat.blt pc 48 then
(bif Nat.blt pc 47 then
(bif Nat.beq pc 46 then en (.ireturn) 0 0 0 0 else none) else
(bif Nat.beq pc 47 then en (.aload_n 0) 0 0 0 0 else none)) else
(bif Nat.blt pc 51 then
(bif Nat.beq pc 48 then en (.getfield 9) 5 0 1493 0 else none) else
(bif Nat.beq pc 51 then en (.bipush 9) 0 0 0 0 else none))) else
(bif Nat.blt pc 57 then
(bif Nat.blt pc 54 then
(bif Nat.beq pc 53 then en (.aload_n 0) 0 0 0 0 else none) else
(bif Nat.beq pc 54 then en (.getfield 9) 5 0 1493 0 else none)) else
(bif Nat.blt pc 58 then
(bif Nat.beq pc 57 then en (.iconst 0) 0 0 0 0 else none) else
(bif Nat.blt pc 59 then
(bif Nat.beq pc 58 then en (.iaload) 0 0 0 0 else none) else
(bif Nat.beq pc 59 then en (.iadd) 0 0 0 0 else none))))))) else
(bif Nat.blt pc 86 then
(bif Nat.blt pc 72 then
(bif Nat.blt pc 66 then
(bif Nat.blt pc 62 then
(bif Nat.blt pc 61 then
(bif Nat.beq pc 60 then en (.iload_n 1) 0 0 0 0 else none) else
(bif Nat.beq pc 61 then en (.iastore) 0 0 0 0 else none)) else
(bif Nat.blt pc 63 then
(bif Nat.beq pc 62 then en (.aload_n 0) 0 0 0 0 else none) else
(bif Nat.beq pc 63 then en (.getfield 9) 5 0 1493 0 else none))) else
(bif Nat.blt pc 68 then
(bif Nat.blt pc 67 then
(bif Nat.beq pc 66 then en (.iconst 0) 0 0 0 0 else none) else
(bif Nat.beq pc 67 then en (.iaload) 0 0 0 0 else none)) else
(bif Nat.blt pc 71 then
(bif Nat.beq pc 68 then en (.ifCond .le 20) 88 0 0 0 else none) else
(bif Nat.beq pc 71 then en (.aload_n 0) 0 0 0 0 else none)))) else
(bif Nat.blt pc 81 then
(bif Nat.blt pc 77 then
(bif Nat.blt pc 75 then
(bif Nat.beq pc 72 then en (.getfield 9) 5 0 1493 0 else none) else
(bif Nat.beq pc 75 then en (.bipush 16) 0 0 0 0 else none)) else
(bif Nat.blt pc 78 then
(bif Nat.beq pc 77 then en (.aload_n 0) 0 0 0 0 else none) else
(bif Nat.beq pc 78 then en (.getfield 9) 5 0 1493 0 else none))) else
(bif Nat.blt pc 83 then
(bif Nat.blt pc 82 then
(bif Nat.beq pc 81 then en (.iconst 0) 0 0 0 0 else none) else
(bif Nat.beq pc 82 then en (.iaload) 0 0 0 0 else none)) else
(bif Nat.blt pc 84 then
(bif Nat.beq pc 83 then en (.iadd) 0 0 0 0 else none) else
(bif Nat.blt pc 85 then
(bif Nat.beq pc 84 then en (.iconst 1) 0 0 0 0 else none) else
(bif Nat.beq pc 85 then en (.isub) 0 0 0 0 else none)))))) else
(bif Nat.blt pc 96 then
(bif Nat.blt pc 92 then
(bif Nat.blt pc 88 then
(bif Nat.blt pc 87 then
(bif Nat.beq pc 86 then en (.iload_n 2) 0 0 0 0 else none) else
(bif Nat.beq pc 87 then en (.iastore) 0 0 0 0 else none)) else
(bif Nat.blt pc 89 then
(bif Nat.beq pc 88 then en (.aload_n 0) 0 0 0 0 else none) else
(bif Nat.beq pc 89 then en (.getfield 9) 5 0 1493 0 else none))) else
(bif Nat.blt pc 94 then
(bif Nat.blt pc 93 then
(bif Nat.beq pc 92 then en (.iconst 0) 0 0 0 0 else none) else
(bif Nat.beq pc 93 then en (.dup2) 0 0 0 0 else none)) else
(bif Nat.blt pc 95 then
(bif Nat.beq pc 94 then en (.iaload) 0 0 0 0 else none) else
(bif Nat.beq pc 95 then en (.iconst 1) 0 0 0 0 else none)))) else
(bif Nat.blt pc 102 then
(bif Nat.blt pc 98 then
(bif Nat.blt pc 97 then
(bif Nat.beq pc 96 then en (.iadd) 0 0 0 0 else none) else
(bif Nat.beq pc 97 then en (.iastore) 0 0 0 0 else none)) else
(bif Nat.blt pc 99 then
(bif Nat.beq pc 98 then en (.aload_n 0) 0 0 0 0 else none) else
(bif Nat.beq pc 99 then en (.getfield 9) 5 0 1493 0 else none))) else
(bif Nat.blt pc 104 then
(bif Nat.blt pc 103 then
(bif Nat.beq pc 102 then en (.iconst 0) 0 0 0 0 else none) else
(bif Nat.beq pc 103 then en (.iaload) 0 0 0 0 else none)) else
(bif Nat.blt pc 105 then
(bif Nat.beq pc 104 then en (.iconst 1) 0 0 0 0 else none) else
(bif Nat.blt pc 106 then
(bif Nat.beq pc 105 then en (.isub) 0 0 0 0 else none) else
(bif Nat.beq pc 106 then en (.ireturn) 0 0 0 0 else none)))))))) else none
/-- SingleTrackLineModel.addStation(II)I -/
def mc168 (pc : Nat) : Option En := bif Nat.blt pc 15 then (bif Nat.blt pc 6 then
(bif Nat.blt pc 4 then
(bif Nat.blt pc 1 then
(bif Nat.beq pc 0 then en (.aload_n 0) 0 0 0 0 else none) else
(bif Nat.beq pc 1 then en (.invokevirtual 99) 152 0 1571 3205 else none)) else
(bif Nat.blt pc 5 then
(bif Nat.beq pc 4 then en (.aload_n 0) 0 0 0 0 else none) else
(bif Nat.beq pc 5 then en (.aload_n 0) 0 0 0 0 else none))) else
(bif Nat.blt pc 8 then
(bif Nat.blt pc 7 then
(bif Nat.beq pc 6 then en (.iload_n 1) 0 0 0 0 else none) else
(bif Nat.beq pc 7 then en (.iload_n 2) 0 0 0 0 else none)) else
(bif Nat.blt pc 11 then
(bif Nat.beq pc 8 then en (.invokevirtual 102) 167 0 1575 3305 else none) else
(bif Nat.blt pc 14 then
(bif Nat.beq pc 11 then en (.invokevirtual 105) 153 0 1588 3505 else none) else
(bif Nat.beq pc 14 then en (.ireturn) 0 0 0 0 else none))))) else none
/-- SingleTrackLineModel.tracksIt(II)I -/
def mc169 (pc : Nat) : Option En := bif Nat.blt pc 69 then (bif Nat.blt pc 37 then
(bif Nat.blt pc 16 then
(bif Nat.blt pc 9 then
(bif Nat.blt pc 2 then
(bif Nat.blt pc 1 then
(bif Nat.beq pc 0 then en (.aload_n 0) 0 0 0 0 else none) else
(bif Nat.beq pc 1 then en (.iload_n 1) 0 0 0 0 else none)) else
(bif Nat.blt pc 5 then
(bif Nat.beq pc 2 then en (.invokevirtual 108) 155 0 1600 3705 else none) else
(bif Nat.blt pc 8 then
(bif Nat.beq pc 5 then en (.ifCond .ne 9) 14 0 0 0 else none) else
(bif Nat.beq pc 8 then en (.aload_n 0) 0 0 0 0 else none)))) else
(bif Nat.blt pc 13 then
(bif Nat.blt pc 10 then
(bif Nat.beq pc 9 then en (.iconst 1) 0 0 0 0 else none) else
(bif Nat.beq pc 10 then en (.invokevirtual 96) 150 0 1584 3405 else none)) else
(bif Nat.blt pc 14 then
(bif Nat.beq pc 13 then en (.ireturn) 0 0 0 0 else none) else
(bif Nat.blt pc 15 then
(bif Nat.beq pc 14 then en (.iload_n 2) 0 0 0 0 else none) else
(bif Nat.beq pc 15 then en (.i2l) 0 0 0 0 else none))))) else
(bif Nat.blt pc 27 then
(bif Nat.blt pc 20 then
(bif Nat.blt pc 17 then
(bif Nat.beq pc 16 then en (.lconst 1) 0 0 0 0 else none) else
(bif Nat.beq pc 17 then en (.ldc2_w 92) 4 0 1579 0 else none)) else
(bif Nat.blt pc 23 then
(bif Nat.beq pc 20 then en (.invokestatic 57) 151 1 1580 0 else none) else
(bif Nat.blt pc 26 then
(bif Nat.beq pc 23 then en (.ifCond .ne 9) 32 0 0 0 else none) else
(bif Nat.beq pc 26 then en (.aload_n 0) 0 0 0 0 else none)))) else
(bif Nat.blt pc 32 then
(bif Nat.blt pc 28 then
(bif Nat.beq pc 27 then en (.iconst 2) 0 0 0 0 else none) else
(bif Nat.blt pc 31 then
(bif Nat.beq pc 28 then en (.invokevirtual 96) 150 0 1584 3405 else none) else
(bif Nat.beq pc 31 then en (.ireturn) 0 0 0 0 else none))) else
(bif Nat.blt pc 33 then
(bif Nat.beq pc 32 then en (.aload_n 0) 0 0 0 0 else none) else
(bif Nat.blt pc 34 then
(bif Nat.beq pc 33 then en (.iload_n 1) 0 0 0 0 else none) else
(bif Nat.beq pc 34 then en (.invokevirtual 74) 162 0 1604 3805 else none)))))) else
(bif Nat.blt pc 55 then
(bif Nat.blt pc 46 then
(bif Nat.blt pc 41 then
(bif Nat.blt pc 38 then
(bif Nat.beq pc 37 then en (.iload_n 2) 0 0 0 0 else none) else
(bif Nat.beq pc 38 then en (.if_icmp .le 9) 47 0 0 0 else none)) else
(bif Nat.blt pc 42 then
(bif Nat.beq pc 41 then en (.aload_n 0) 0 0 0 0 else none) else
(bif Nat.blt pc 43 then
(bif Nat.beq pc 42 then en (.iconst 3) 0 0 0 0 else none) else
(bif Nat.beq pc 43 then en (.invokevirtual 96) 150 0 1584 3405 else none)))) else
(bif Nat.blt pc 51 then
(bif Nat.blt pc 47 then
(bif Nat.beq pc 46 then en (.ireturn) 0 0 0 0 else none) else
(bif Nat.blt pc 48 then
(bif Nat.beq pc 47 then en (.aload_n 0) 0 0 0 0 else none) else
(bif Nat.beq pc 48 then en (.getfield 9) 5 0 1493 0 else none))) else
(bif Nat.blt pc 53 then
(bif Nat.beq pc 51 then en (.bipush 9) 0 0 0 0 else none) else
(bif Nat.blt pc 54 then
(bif Nat.beq pc 53 then en (.iload_n 1) 0 0 0 0 else none) else
(bif Nat.beq pc 54 then en (.iadd) 0 0 0 0 else none))))) else
(bif Nat.blt pc 63 then
(bif Nat.blt pc 57 then
(bif Nat.blt pc 56 then
(bif Nat.beq pc 55 then en (.iaload) 0 0 0 0 else none) else
(bif Nat.beq pc 56 then en (.istore_n 3) 0 0 0 0 else none)) else
(bif Nat.blt pc 58 then
(bif Nat.beq pc 57 then en (.aload_n 0) 0 0 0 0 else none) else
(bif Nat.blt pc 61 then
(bif Nat.beq pc 58 then en (.getfield 9) 5 0 1493 0 else none) else
(bif Nat.beq pc 61 then en (.bipush 9) 0 0 0 0 else none)))) else
(bif Nat.blt pc 66 then
(bif Nat.blt pc 64 then
(bif Nat.beq pc 63 then en (.iload_n 1) 0 0 0 0 else none) else
(bif Nat.blt pc 65 then
(bif Nat.beq pc 64 then en (.iadd) 0 0 0 0 else none) else
(bif Nat.beq pc 65 then en (.iload_n 2) 0 0 0 0 else none))) else
(bif Nat.blt pc 67 then
(bif Nat.beq pc 66 then en (.iastore) 0 0 0 0 else none) else
(bif Nat.blt pc 68 then
(bif Nat.beq pc 67 then en (.iload_n 3) 0 0 0 0 else none) else
(bif Nat.beq pc 68 then en (.ireturn) 0 0 0 0 else none))))))) else none
/-- SingleTrackLineModel.setTracks(II)I -/
def mc170 (pc : Nat) : Option En := bif Nat.blt pc 15 then (bif Nat.blt pc 6 then
(bif Nat.blt pc 4 then
(bif Nat.blt pc 1 then
(bif Nat.beq pc 0 then en (.aload_n 0) 0 0 0 0 else none) else
(bif Nat.beq pc 1 then en (.invokevirtual 99) 152 0 1571 3205 else none)) else
(bif Nat.blt pc 5 then
(bif Nat.beq pc 4 then en (.aload_n 0) 0 0 0 0 else none) else
(bif Nat.beq pc 5 then en (.aload_n 0) 0 0 0 0 else none))) else
(bif Nat.blt pc 8 then
(bif Nat.blt pc 7 then
(bif Nat.beq pc 6 then en (.iload_n 1) 0 0 0 0 else none) else
(bif Nat.beq pc 7 then en (.iload_n 2) 0 0 0 0 else none)) else
(bif Nat.blt pc 11 then
(bif Nat.beq pc 8 then en (.invokevirtual 112) 169 0 1596 3605 else none) else
(bif Nat.blt pc 14 then
(bif Nat.beq pc 11 then en (.invokevirtual 105) 153 0 1588 3505 else none) else
(bif Nat.beq pc 14 then en (.ireturn) 0 0 0 0 else none))))) else none
/-- SingleTrackLineModel.trainIt(III)I -/
def mc171 (pc : Nat) : Option En := bif Nat.blt pc 150 then (bif Nat.blt pc 82 then
(bif Nat.blt pc 44 then
(bif Nat.blt pc 22 then
(bif Nat.blt pc 10 then
(bif Nat.blt pc 5 then
(bif Nat.blt pc 1 then
(bif Nat.beq pc 0 then en (.aload_n 0) 0 0 0 0 else none) else
(bif Nat.blt pc 2 then
(bif Nat.beq pc 1 then en (.iload_n 1) 0 0 0 0 else none) else
(bif Nat.beq pc 2 then en (.invokevirtual 108) 155 0 1600 3705 else none))) else
(bif Nat.blt pc 8 then
(bif Nat.beq pc 5 then en (.ifCond .eq 11) 16 0 0 0 else none) else
(bif Nat.blt pc 9 then
(bif Nat.beq pc 8 then en (.aload_n 0) 0 0 0 0 else none) else
(bif Nat.beq pc 9 then en (.iload_n 2) 0 0 0 0 else none)))) else
(bif Nat.blt pc 17 then
(bif Nat.blt pc 13 then
(bif Nat.beq pc 10 then en (.invokevirtual 108) 155 0 1600 3705 else none) else
(bif Nat.blt pc 16 then
(bif Nat.beq pc 13 then en (.ifCond .ne 9) 22 0 0 0 else none) else
(bif Nat.beq pc 16 then en (.aload_n 0) 0 0 0 0 else none))) else
(bif Nat.blt pc 18 then
(bif Nat.beq pc 17 then en (.iconst 1) 0 0 0 0 else none) else
(bif Nat.blt pc 21 then
(bif Nat.beq pc 18 then en (.invokevirtual 96) 150 0 1584 3405 else none) else
(bif Nat.beq pc 21 then en (.ireturn) 0 0 0 0 else none))))) else
(bif Nat.blt pc 30 then
(bif Nat.blt pc 27 then
(bif Nat.blt pc 23 then
(bif Nat.beq pc 22 then en (.iload_n 1) 0 0 0 0 else none) else
(bif Nat.blt pc 24 then
(bif Nat.beq pc 23 then en (.iload_n 2) 0 0 0 0 else none) else
(bif Nat.beq pc 24 then en (.if_icmp .eq 15) 39 0 0 0 else none))) else
(bif Nat.blt pc 28 then
(bif Nat.beq pc 27 then en (.iload_n 3) 0 0 0 0 else none) else
(bif Nat.blt pc 29 then
(bif Nat.beq pc 28 then en (.i2l) 0 0 0 0 else none) else
(bif Nat.beq pc 29 then en (.lconst 1) 0 0 0 0 else none)))) else
(bif Nat.blt pc 39 then
(bif Nat.blt pc 33 then
(bif Nat.beq pc 30 then en (.ldc2_w 115) 99 0 1631 0 else none) else
(bif Nat.blt pc 36 then
(bif Nat.beq pc 33 then en (.invokestatic 57) 151 1 1580 0 else none) else
(bif Nat.beq pc 36 then en (.ifCond .ne 9) 45 0 0 0 else none))) else
(bif Nat.blt pc 40 then
(bif Nat.beq pc 39 then en (.aload_n 0) 0 0 0 0 else none) else
(bif Nat.blt pc 41 then
(bif Nat.beq pc 40 then en (.iconst 2) 0 0 0 0 else none) else
(bif Nat.beq pc 41 then en (.invokevirtual 96) 150 0 1584 3405 else none)))))) else
(bif Nat.blt pc 63 then
(bif Nat.blt pc 53 then
(bif Nat.blt pc 49 then
(bif Nat.blt pc 45 then
(bif Nat.beq pc 44 then en (.ireturn) 0 0 0 0 else none) else
(bif Nat.blt pc 46 then
(bif Nat.beq pc 45 then en (.aload_n 0) 0 0 0 0 else none) else
(bif Nat.beq pc 46 then en (.getfield 9) 5 0 1493 0 else none))) else
(bif Nat.blt pc 50 then
(bif Nat.beq pc 49 then en (.iconst 1) 0 0 0 0 else none) else
(bif Nat.blt pc 51 then
(bif Nat.beq pc 50 then en (.iaload) 0 0 0 0 else none) else
(bif Nat.beq pc 51 then en (.bipush 6) 0 0 0 0 else none)))) else
(bif Nat.blt pc 58 then
(bif Nat.blt pc 56 then
(bif Nat.beq pc 53 then en (.if_icmp .ne 9) 62 0 0 0 else none) else
(bif Nat.blt pc 57 then
(bif Nat.beq pc 56 then en (.aload_n 0) 0 0 0 0 else none) else
(bif Nat.beq pc 57 then en (.iconst 3) 0 0 0 0 else none))) else
(bif Nat.blt pc 61 then
(bif Nat.beq pc 58 then en (.invokevirtual 96) 150 0 1584 3405 else none) else
(bif Nat.blt pc 62 then
(bif Nat.beq pc 61 then en (.ireturn) 0 0 0 0 else none) else
(bif Nat.beq pc 62 then en (.aload_n 0) 0 0 0 0 else none))))) else
(bif Nat.blt pc 74 then
(bif Nat.blt pc 68 then
(bif Nat.blt pc 66 then
(bif Nat.beq pc 63 then en (.getfield 9) 5 0 1493 0 else none) else
(bif Nat.blt pc 67 then
(bif Nat.beq pc 66 then en (.iconst 1) 0 0 0 0 else none) else
(bif Nat.beq pc 67 then en (.iaload) 0 0 0 0 else none))) else
(bif Nat.blt pc 71 then
(bif Nat.beq pc 68 then en (.invokestatic 61) 154 1 1612 0 else none) else
(bif Nat.blt pc 73 then
(bif Nat.beq pc 71 then en (.istore 4) 0 0 0 0 else none) else
(bif Nat.beq pc 73 then en (.aload_n 0) 0 0 0 0 else none)))) else
(bif Nat.blt pc 79 then
(bif Nat.blt pc 77 then
(bif Nat.beq pc 74 then en (.getfield 9) 5 0 1493 0 else none) else
(bif Nat.blt pc 78 then
(bif Nat.beq pc 77 then en (.iconst 2) 0 0 0 0 else none) else
(bif Nat.beq pc 78 then en (.dup2) 0 0 0 0 else none))) else
(bif Nat.blt pc 80 then
(bif Nat.beq pc 79 then en (.iaload) 0 0 0 0 else none) else
(bif Nat.blt pc 81 then
(bif Nat.beq pc 80 then en (.iconst 1) 0 0 0 0 else none) else
(bif Nat.beq pc 81 then en (.iadd) 0 0 0 0 else none))))))) else
(bif Nat.blt pc 117 then
(bif Nat.blt pc 102 then
(bif Nat.blt pc 93 then
(bif Nat.blt pc 87 then
(bif Nat.blt pc 83 then
(bif Nat.beq pc 82 then en (.iastore) 0 0 0 0 else none) else
(bif Nat.blt pc 84 then
(bif Nat.beq pc 83 then en (.aload_n 0) 0 0 0 0 else none) else
(bif Nat.beq pc 84 then en (.getfield 9) 5 0 1493 0 else none))) else
(bif Nat.blt pc 89 then
(bif Nat.beq pc 87 then en (.iload 4) 0 0 0 0 else none) else
(bif Nat.blt pc 90 then
(bif Nat.beq pc 89 then en (.aload_n 0) 0 0 0 0 else none) else
(bif Nat.beq pc 90 then en (.getfield 9) 5 0 1493 0 else none)))) else
(bif Nat.blt pc 96 then
(bif Nat.blt pc 94 then
(bif Nat.beq pc 93 then en (.iconst 2) 0 0 0 0 else none) else
(bif Nat.blt pc 95 then
(bif Nat.beq pc 94 then en (.iaload) 0 0 0 0 else none) else
(bif Nat.beq pc 95 then en (.iastore) 0 0 0 0 else none))) else
(bif Nat.blt pc 97 then
(bif Nat.beq pc 96 then en (.aload_n 0) 0 0 0 0 else none) else
(bif Nat.blt pc 100 then
(bif Nat.beq pc 97 then en (.getfield 9) 5 0 1493 0 else none) else
(bif Nat.beq pc 100 then en (.iload 4) 0 0 0 0 else none))))) else
(bif Nat.blt pc 110 then
(bif Nat.blt pc 105 then
(bif Nat.blt pc 103 then
(bif Nat.beq pc 102 then en (.iconst 1) 0 0 0 0 else none) else
(bif Nat.blt pc 104 then
(bif Nat.beq pc 103 then en (.iadd) 0 0 0 0 else none) else
(bif Nat.beq pc 104 then en (.iload_n 1) 0 0 0 0 else none))) else
(bif Nat.blt pc 106 then
(bif Nat.beq pc 105 then en (.iastore) 0 0 0 0 else none) else
(bif Nat.blt pc 107 then
(bif Nat.beq pc 106 then en (.aload_n 0) 0 0 0 0 else none) else
(bif Nat.beq pc 107 then en (.getfield 9) 5 0 1493 0 else none)))) else
(bif Nat.blt pc 114 then
(bif Nat.blt pc 112 then
(bif Nat.beq pc 110 then en (.iload 4) 0 0 0 0 else none) else
(bif Nat.blt pc 113 then
(bif Nat.beq pc 112 then en (.iconst 2) 0 0 0 0 else none) else
(bif Nat.beq pc 113 then en (.iadd) 0 0 0 0 else none))) else
(bif Nat.blt pc 115 then
(bif Nat.beq pc 114 then en (.iload_n 2) 0 0 0 0 else none) else
(bif Nat.blt pc 116 then
(bif Nat.beq pc 115 then en (.iastore) 0 0 0 0 else none) else
(bif Nat.beq pc 116 then en (.aload_n 0) 0 0 0 0 else none)))))) else
(bif Nat.blt pc 134 then
(bif Nat.blt pc 128 then
(bif Nat.blt pc 123 then
(bif Nat.blt pc 120 then
(bif Nat.beq pc 117 then en (.getfield 9) 5 0 1493 0 else none) else
(bif Nat.blt pc 122 then
(bif Nat.beq pc 120 then en (.iload 4) 0 0 0 0 else none) else
(bif Nat.beq pc 122 then en (.iconst 3) 0 0 0 0 else none))) else
(bif Nat.blt pc 124 then
(bif Nat.beq pc 123 then en (.iadd) 0 0 0 0 else none) else
(bif Nat.blt pc 125 then
(bif Nat.beq pc 124 then en (.aload_n 0) 0 0 0 0 else none) else
(bif Nat.beq pc 125 then en (.getfield 9) 5 0 1493 0 else none)))) else
(bif Nat.blt pc 131 then
(bif Nat.blt pc 129 then
(bif Nat.beq pc 128 then en (.iconst 3) 0 0 0 0 else none) else
(bif Nat.blt pc 130 then
(bif Nat.beq pc 129 then en (.iaload) 0 0 0 0 else none) else
(bif Nat.beq pc 130 then en (.iload_n 3) 0 0 0 0 else none))) else
(bif Nat.blt pc 132 then
(bif Nat.beq pc 131 then en (.iadd) 0 0 0 0 else none) else
(bif Nat.blt pc 133 then
(bif Nat.beq pc 132 then en (.iastore) 0 0 0 0 else none) else
(bif Nat.beq pc 133 then en (.aload_n 0) 0 0 0 0 else none))))) else
(bif Nat.blt pc 142 then
(bif Nat.blt pc 139 then
(bif Nat.blt pc 137 then
(bif Nat.beq pc 134 then en (.getfield 9) 5 0 1493 0 else none) else
(bif Nat.blt pc 138 then
(bif Nat.beq pc 137 then en (.iconst 1) 0 0 0 0 else none) else
(bif Nat.beq pc 138 then en (.dup2) 0 0 0 0 else none))) else
(bif Nat.blt pc 140 then
(bif Nat.beq pc 139 then en (.iaload) 0 0 0 0 else none) else
(bif Nat.blt pc 141 then
(bif Nat.beq pc 140 then en (.iconst 1) 0 0 0 0 else none) else
(bif Nat.beq pc 141 then en (.iadd) 0 0 0 0 else none)))) else
(bif Nat.blt pc 147 then
(bif Nat.blt pc 143 then
(bif Nat.beq pc 142 then en (.iastore) 0 0 0 0 else none) else
(bif Nat.blt pc 144 then
(bif Nat.beq pc 143 then en (.aload_n 0) 0 0 0 0 else none) else
(bif Nat.beq pc 144 then en (.getfield 9) 5 0 1493 0 else none))) else
(bif Nat.blt pc 148 then
(bif Nat.beq pc 147 then en (.iconst 2) 0 0 0 0 else none) else
(bif Nat.blt pc 149 then
(bif Nat.beq pc 148 then en (.iaload) 0 0 0 0 else none) else
(bif Nat.beq pc 149 then en (.ireturn) 0 0 0 0 else none)))))))) else none
/-- SingleTrackLineModel.addTrain(III)I -/
def mc172 (pc : Nat) : Option En := bif Nat.blt pc 16 then (bif Nat.blt pc 7 then
(bif Nat.blt pc 4 then
(bif Nat.blt pc 1 then
(bif Nat.beq pc 0 then en (.aload_n 0) 0 0 0 0 else none) else
(bif Nat.beq pc 1 then en (.invokevirtual 99) 152 0 1571 3205 else none)) else
(bif Nat.blt pc 5 then
(bif Nat.beq pc 4 then en (.aload_n 0) 0 0 0 0 else none) else
(bif Nat.blt pc 6 then
(bif Nat.beq pc 5 then en (.aload_n 0) 0 0 0 0 else none) else
(bif Nat.beq pc 6 then en (.iload_n 1) 0 0 0 0 else none)))) else
(bif Nat.blt pc 9 then
(bif Nat.blt pc 8 then
(bif Nat.beq pc 7 then en (.iload_n 2) 0 0 0 0 else none) else
(bif Nat.beq pc 8 then en (.iload_n 3) 0 0 0 0 else none)) else
(bif Nat.blt pc 12 then
(bif Nat.beq pc 9 then en (.invokevirtual 117) 171 0 1627 4205 else none) else
(bif Nat.blt pc 15 then
(bif Nat.beq pc 12 then en (.invokevirtual 105) 153 0 1588 3505 else none) else
(bif Nat.beq pc 15 then en (.ireturn) 0 0 0 0 else none))))) else none
/-- SingleTrackLineModel.held()I -/
def mc173 (pc : Nat) : Option En := bif Nat.blt pc 37 then (bif Nat.blt pc 16 then
(bif Nat.blt pc 6 then
(bif Nat.blt pc 3 then
(bif Nat.blt pc 1 then
(bif Nat.beq pc 0 then en (.iconst 0) 0 0 0 0 else none) else
(bif Nat.blt pc 2 then
(bif Nat.beq pc 1 then en (.istore_n 1) 0 0 0 0 else none) else
(bif Nat.beq pc 2 then en (.iconst 0) 0 0 0 0 else none))) else
(bif Nat.blt pc 4 then
(bif Nat.beq pc 3 then en (.istore_n 2) 0 0 0 0 else none) else
(bif Nat.blt pc 5 then
(bif Nat.beq pc 4 then en (.iload_n 2) 0 0 0 0 else none) else
(bif Nat.beq pc 5 then en (.aload_n 0) 0 0 0 0 else none)))) else
(bif Nat.blt pc 11 then
(bif Nat.blt pc 9 then
(bif Nat.beq pc 6 then en (.getfield 9) 5 0 1493 0 else none) else
(bif Nat.blt pc 10 then
(bif Nat.beq pc 9 then en (.iconst 1) 0 0 0 0 else none) else
(bif Nat.beq pc 10 then en (.iaload) 0 0 0 0 else none))) else
(bif Nat.blt pc 14 then
(bif Nat.beq pc 11 then en (.if_icmp .ge 24) 35 0 0 0 else none) else
(bif Nat.blt pc 15 then
(bif Nat.beq pc 14 then en (.iload_n 1) 0 0 0 0 else none) else
(bif Nat.beq pc 15 then en (.aload_n 0) 0 0 0 0 else none))))) else
(bif Nat.blt pc 27 then
(bif Nat.blt pc 23 then
(bif Nat.blt pc 19 then
(bif Nat.beq pc 16 then en (.getfield 9) 5 0 1493 0 else none) else
(bif Nat.blt pc 20 then
(bif Nat.beq pc 19 then en (.iload_n 2) 0 0 0 0 else none) else
(bif Nat.beq pc 20 then en (.invokestatic 61) 154 1 1612 0 else none))) else
(bif Nat.blt pc 25 then
(bif Nat.beq pc 23 then en (.bipush 7) 0 0 0 0 else none) else
(bif Nat.blt pc 26 then
(bif Nat.beq pc 25 then en (.iadd) 0 0 0 0 else none) else
(bif Nat.beq pc 26 then en (.iaload) 0 0 0 0 else none)))) else
(bif Nat.blt pc 32 then
(bif Nat.blt pc 28 then
(bif Nat.beq pc 27 then en (.iadd) 0 0 0 0 else none) else
(bif Nat.blt pc 29 then
(bif Nat.beq pc 28 then en (.istore_n 1) 0 0 0 0 else none) else
(bif Nat.beq pc 29 then en (.iinc 2 1) 0 0 0 0 else none))) else
(bif Nat.blt pc 35 then
(bif Nat.beq pc 32 then en (.goto (-28)) 4 0 0 0 else none) else
(bif Nat.blt pc 36 then
(bif Nat.beq pc 35 then en (.iload_n 1) 0 0 0 0 else none) else
(bif Nat.beq pc 36 then en (.ireturn) 0 0 0 0 else none)))))) else none
/-- SingleTrackLineModel.holdIt(II)I -/
def mc174 (pc : Nat) : Option En := bif Nat.blt pc 57 then (bif Nat.blt pc 28 then
(bif Nat.blt pc 12 then
(bif Nat.blt pc 6 then
(bif Nat.blt pc 2 then
(bif Nat.blt pc 1 then
(bif Nat.beq pc 0 then en (.aload_n 0) 0 0 0 0 else none) else
(bif Nat.beq pc 1 then en (.iload_n 1) 0 0 0 0 else none)) else
(bif Nat.blt pc 5 then
(bif Nat.beq pc 2 then en (.invokevirtual 121) 157 0 1640 4405 else none) else
(bif Nat.beq pc 5 then en (.istore_n 3) 0 0 0 0 else none))) else
(bif Nat.blt pc 8 then
(bif Nat.blt pc 7 then
(bif Nat.beq pc 6 then en (.iload_n 3) 0 0 0 0 else none) else
(bif Nat.beq pc 7 then en (.iconst (-1)) 0 0 0 0 else none)) else
(bif Nat.blt pc 11 then
(bif Nat.beq pc 8 then en (.if_icmp .ne 9) 17 0 0 0 else none) else
(bif Nat.beq pc 11 then en (.aload_n 0) 0 0 0 0 else none)))) else
(bif Nat.blt pc 18 then
(bif Nat.blt pc 16 then
(bif Nat.blt pc 13 then
(bif Nat.beq pc 12 then en (.iconst 1) 0 0 0 0 else none) else
(bif Nat.beq pc 13 then en (.invokevirtual 96) 150 0 1584 3405 else none)) else
(bif Nat.blt pc 17 then
(bif Nat.beq pc 16 then en (.ireturn) 0 0 0 0 else none) else
(bif Nat.beq pc 17 then en (.aload_n 0) 0 0 0 0 else none))) else
(bif Nat.blt pc 22 then
(bif Nat.blt pc 21 then
(bif Nat.beq pc 18 then en (.getfield 9) 5 0 1493 0 else none) else
(bif Nat.beq pc 21 then en (.iload_n 3) 0 0 0 0 else none)) else
(bif Nat.blt pc 25 then
(bif Nat.beq pc 22 then en (.invokestatic 61) 154 1 1612 0 else none) else
(bif Nat.blt pc 27 then
(bif Nat.beq pc 25 then en (.bipush 7) 0 0 0 0 else none) else
(bif Nat.beq pc 27 then en (.iadd) 0 0 0 0 else none)))))) else
(bif Nat.blt pc 43 then
(bif Nat.blt pc 34 then
(bif Nat.blt pc 30 then
(bif Nat.blt pc 29 then
(bif Nat.beq pc 28 then en (.iaload) 0 0 0 0 else none) else
(bif Nat.beq pc 29 then en (.iload_n 2) 0 0 0 0 else none)) else
(bif Nat.blt pc 33 then
(bif Nat.beq pc 30 then en (.if_icmp .ne 9) 39 0 0 0 else none) else
(bif Nat.beq pc 33 then en (.aload_n 0) 0 0 0 0 else none))) else
(bif Nat.blt pc 38 then
(bif Nat.blt pc 35 then
(bif Nat.beq pc 34 then en (.iconst 2) 0 0 0 0 else none) else
(bif Nat.beq pc 35 then en (.invokevirtual 96) 150 0 1584 3405 else none)) else
(bif Nat.blt pc 39 then
(bif Nat.beq pc 38 then en (.ireturn) 0 0 0 0 else none) else
(bif Nat.blt pc 40 then
(bif Nat.beq pc 39 then en (.aload_n 0) 0 0 0 0 else none) else
(bif Nat.beq pc 40 then en (.getfield 9) 5 0 1493 0 else none))))) else
(bif Nat.blt pc 50 then
(bif Nat.blt pc 47 then
(bif Nat.blt pc 44 then
(bif Nat.beq pc 43 then en (.iload_n 3) 0 0 0 0 else none) else
(bif Nat.beq pc 44 then en (.invokestatic 61) 154 1 1612 0 else none)) else
(bif Nat.blt pc 49 then
(bif Nat.beq pc 47 then en (.bipush 7) 0 0 0 0 else none) else
(bif Nat.beq pc 49 then en (.iadd) 0 0 0 0 else none))) else
(bif Nat.blt pc 52 then
(bif Nat.blt pc 51 then
(bif Nat.beq pc 50 then en (.iload_n 2) 0 0 0 0 else none) else
(bif Nat.beq pc 51 then en (.iastore) 0 0 0 0 else none)) else
(bif Nat.blt pc 53 then
(bif Nat.beq pc 52 then en (.aload_n 0) 0 0 0 0 else none) else
(bif Nat.blt pc 56 then
(bif Nat.beq pc 53 then en (.invokevirtual 124) 173 0 1644 4505 else none) else
(bif Nat.beq pc 56 then en (.ireturn) 0 0 0 0 else none))))))) else none
/-- SingleTrackLineModel.hold(I)I -/
def mc175 (pc : Nat) : Option En := bif Nat.blt pc 15 then (bif Nat.blt pc 6 then
(bif Nat.blt pc 4 then
(bif Nat.blt pc 1 then
(bif Nat.beq pc 0 then en (.aload_n 0) 0 0 0 0 else none) else
(bif Nat.beq pc 1 then en (.invokevirtual 99) 152 0 1571 3205 else none)) else
(bif Nat.blt pc 5 then
(bif Nat.beq pc 4 then en (.aload_n 0) 0 0 0 0 else none) else
(bif Nat.beq pc 5 then en (.aload_n 0) 0 0 0 0 else none))) else
(bif Nat.blt pc 8 then
(bif Nat.blt pc 7 then
(bif Nat.beq pc 6 then en (.iload_n 1) 0 0 0 0 else none) else
(bif Nat.beq pc 7 then en (.iconst 1) 0 0 0 0 else none)) else
(bif Nat.blt pc 11 then
(bif Nat.beq pc 8 then en (.invokevirtual 128) 174 0 1636 4305 else none) else
(bif Nat.blt pc 14 then
(bif Nat.beq pc 11 then en (.invokevirtual 105) 153 0 1588 3505 else none) else
(bif Nat.beq pc 14 then en (.ireturn) 0 0 0 0 else none))))) else none
/-- SingleTrackLineModel.releaseTrain(I)I -/
def mc176 (pc : Nat) : Option En := bif Nat.blt pc 15 then (bif Nat.blt pc 6 then
(bif Nat.blt pc 4 then
(bif Nat.blt pc 1 then
(bif Nat.beq pc 0 then en (.aload_n 0) 0 0 0 0 else none) else
(bif Nat.beq pc 1 then en (.invokevirtual 99) 152 0 1571 3205 else none)) else
(bif Nat.blt pc 5 then
(bif Nat.beq pc 4 then en (.aload_n 0) 0 0 0 0 else none) else
(bif Nat.beq pc 5 then en (.aload_n 0) 0 0 0 0 else none))) else
(bif Nat.blt pc 8 then
(bif Nat.blt pc 7 then
(bif Nat.beq pc 6 then en (.iload_n 1) 0 0 0 0 else none) else
(bif Nat.beq pc 7 then en (.iconst 0) 0 0 0 0 else none)) else
(bif Nat.blt pc 11 then
(bif Nat.beq pc 8 then en (.invokevirtual 128) 174 0 1636 4305 else none) else
(bif Nat.blt pc 14 then
(bif Nat.beq pc 11 then en (.invokevirtual 105) 153 0 1588 3505 else none) else
(bif Nat.beq pc 14 then en (.ireturn) 0 0 0 0 else none))))) else none
/-- SingleTrackLineModel.cancelIt(I)I -/
def mc177 (pc : Nat) : Option En := bif Nat.blt pc 50 then (bif Nat.blt pc 26 then
(bif Nat.blt pc 12 then
(bif Nat.blt pc 6 then
(bif Nat.blt pc 2 then
(bif Nat.blt pc 1 then
(bif Nat.beq pc 0 then en (.aload_n 0) 0 0 0 0 else none) else
(bif Nat.beq pc 1 then en (.iload_n 1) 0 0 0 0 else none)) else
(bif Nat.blt pc 5 then
(bif Nat.beq pc 2 then en (.invokevirtual 121) 157 0 1640 4405 else none) else
(bif Nat.beq pc 5 then en (.istore_n 2) 0 0 0 0 else none))) else
(bif Nat.blt pc 8 then
(bif Nat.blt pc 7 then
(bif Nat.beq pc 6 then en (.iload_n 2) 0 0 0 0 else none) else
(bif Nat.beq pc 7 then en (.iconst (-1)) 0 0 0 0 else none)) else
(bif Nat.blt pc 11 then
(bif Nat.beq pc 8 then en (.if_icmp .ne 9) 17 0 0 0 else none) else
(bif Nat.beq pc 11 then en (.aload_n 0) 0 0 0 0 else none)))) else
(bif Nat.blt pc 18 then
(bif Nat.blt pc 16 then
(bif Nat.blt pc 13 then
(bif Nat.beq pc 12 then en (.iconst 1) 0 0 0 0 else none) else
(bif Nat.beq pc 13 then en (.invokevirtual 96) 150 0 1584 3405 else none)) else
(bif Nat.blt pc 17 then
(bif Nat.beq pc 16 then en (.ireturn) 0 0 0 0 else none) else
(bif Nat.beq pc 17 then en (.aload_n 0) 0 0 0 0 else none))) else
(bif Nat.blt pc 22 then
(bif Nat.blt pc 21 then
(bif Nat.beq pc 18 then en (.getfield 9) 5 0 1493 0 else none) else
(bif Nat.beq pc 21 then en (.iload_n 2) 0 0 0 0 else none)) else
(bif Nat.blt pc 25 then
(bif Nat.beq pc 22 then en (.invokestatic 61) 154 1 1612 0 else none) else
(bif Nat.beq pc 25 then en (.iconst 4) 0 0 0 0 else none))))) else
(bif Nat.blt pc 38 then
(bif Nat.blt pc 32 then
(bif Nat.blt pc 28 then
(bif Nat.blt pc 27 then
(bif Nat.beq pc 26 then en (.iadd) 0 0 0 0 else none) else
(bif Nat.beq pc 27 then en (.iaload) 0 0 0 0 else none)) else
(bif Nat.blt pc 29 then
(bif Nat.beq pc 28 then en (.iconst 2) 0 0 0 0 else none) else
(bif Nat.beq pc 29 then en (.if_icmp .ne 9) 38 0 0 0 else none))) else
(bif Nat.blt pc 34 then
(bif Nat.blt pc 33 then
(bif Nat.beq pc 32 then en (.aload_n 0) 0 0 0 0 else none) else
(bif Nat.beq pc 33 then en (.iconst 2) 0 0 0 0 else none)) else
(bif Nat.blt pc 37 then
(bif Nat.beq pc 34 then en (.invokevirtual 96) 150 0 1584 3405 else none) else
(bif Nat.beq pc 37 then en (.ireturn) 0 0 0 0 else none)))) else
(bif Nat.blt pc 44 then
(bif Nat.blt pc 40 then
(bif Nat.blt pc 39 then
(bif Nat.beq pc 38 then en (.aload_n 0) 0 0 0 0 else none) else
(bif Nat.beq pc 39 then en (.iload_n 2) 0 0 0 0 else none)) else
(bif Nat.blt pc 43 then
(bif Nat.beq pc 40 then en (.invokevirtual 131) 166 0 1660 4705 else none) else
(bif Nat.beq pc 43 then en (.aload_n 0) 0 0 0 0 else none))) else
(bif Nat.blt pc 48 then
(bif Nat.blt pc 47 then
(bif Nat.beq pc 44 then en (.getfield 9) 5 0 1493 0 else none) else
(bif Nat.beq pc 47 then en (.iconst 1) 0 0 0 0 else none)) else
(bif Nat.blt pc 49 then
(bif Nat.beq pc 48 then en (.iaload) 0 0 0 0 else none) else
(bif Nat.beq pc 49 then en (.ireturn) 0 0 0 0 else none)))))) else none
/-- SingleTrackLineModel.cancelTrain(I)I -/
def mc178 (pc : Nat) : Option En := bif Nat.blt pc 14 then (bif Nat.blt pc 6 then
(bif Nat.blt pc 4 then
(bif Nat.blt pc 1 then
(bif Nat.beq pc 0 then en (.aload_n 0) 0 0 0 0 else none) else
(bif Nat.beq pc 1 then en (.invokevirtual 99) 152 0 1571 3205 else none)) else
(bif Nat.blt pc 5 then
(bif Nat.beq pc 4 then en (.aload_n 0) 0 0 0 0 else none) else
(bif Nat.beq pc 5 then en (.aload_n 0) 0 0 0 0 else none))) else
(bif Nat.blt pc 10 then
(bif Nat.blt pc 7 then
(bif Nat.beq pc 6 then en (.iload_n 1) 0 0 0 0 else none) else
(bif Nat.beq pc 7 then en (.invokevirtual 135) 177 0 1656 4605 else none)) else
(bif Nat.blt pc 13 then
(bif Nat.beq pc 10 then en (.invokevirtual 105) 153 0 1588 3505 else none) else
(bif Nat.beq pc 13 then en (.ireturn) 0 0 0 0 else none)))) else none
/-- SingleTrackLineModel.hasCome(I)Z -/
def mc179 (pc : Nat) : Option En := bif Nat.blt pc 40 then (bif Nat.blt pc 20 then
(bif Nat.blt pc 6 then
(bif Nat.blt pc 3 then
(bif Nat.blt pc 1 then
(bif Nat.beq pc 0 then en (.iconst 0) 0 0 0 0 else none) else
(bif Nat.blt pc 2 then
(bif Nat.beq pc 1 then en (.istore_n 2) 0 0 0 0 else none) else
(bif Nat.beq pc 2 then en (.iconst 0) 0 0 0 0 else none))) else
(bif Nat.blt pc 4 then
(bif Nat.beq pc 3 then en (.istore_n 3) 0 0 0 0 else none) else
(bif Nat.blt pc 5 then
(bif Nat.beq pc 4 then en (.iload_n 3) 0 0 0 0 else none) else
(bif Nat.beq pc 5 then en (.aload_n 0) 0 0 0 0 else none)))) else
(bif Nat.blt pc 13 then
(bif Nat.blt pc 9 then
(bif Nat.beq pc 6 then en (.getfield 138) 5 13 1506 0 else none) else
(bif Nat.blt pc 12 then
(bif Nat.beq pc 9 then en (.if_icmp .ge 29) 38 0 0 0 else none) else
(bif Nat.beq pc 12 then en (.iload_n 2) 0 0 0 0 else none))) else
(bif Nat.blt pc 16 then
(bif Nat.beq pc 13 then en (.ifCond .ne 13) 26 0 0 0 else none) else
(bif Nat.blt pc 17 then
(bif Nat.beq pc 16 then en (.aload_n 0) 0 0 0 0 else none) else
(bif Nat.beq pc 17 then en (.getfield 35) 5 12 1505 0 else none))))) else
(bif Nat.blt pc 30 then
(bif Nat.blt pc 23 then
(bif Nat.blt pc 21 then
(bif Nat.beq pc 20 then en (.iload_n 3) 0 0 0 0 else none) else
(bif Nat.blt pc 22 then
(bif Nat.beq pc 21 then en (.iaload) 0 0 0 0 else none) else
(bif Nat.beq pc 22 then en (.iload_n 1) 0 0 0 0 else none))) else
(bif Nat.blt pc 26 then
(bif Nat.beq pc 23 then en (.if_icmp .ne 7) 30 0 0 0 else none) else
(bif Nat.blt pc 27 then
(bif Nat.beq pc 26 then en (.iconst 1) 0 0 0 0 else none) else
(bif Nat.beq pc 27 then en (.goto 4) 31 0 0 0 else none)))) else
(bif Nat.blt pc 35 then
(bif Nat.blt pc 31 then
(bif Nat.beq pc 30 then en (.iconst 0) 0 0 0 0 else none) else
(bif Nat.blt pc 32 then
(bif Nat.beq pc 31 then en (.istore_n 2) 0 0 0 0 else none) else
(bif Nat.beq pc 32 then en (.iinc 3 1) 0 0 0 0 else none))) else
(bif Nat.blt pc 38 then
(bif Nat.beq pc 35 then en (.goto (-31)) 4 0 0 0 else none) else
(bif Nat.blt pc 39 then
(bif Nat.beq pc 38 then en (.iload_n 2) 0 0 0 0 else none) else
(bif Nat.beq pc 39 then en (.ireturn) 0 0 0 0 else none)))))) else none
/-- SingleTrackLineModel.comes(II)V -/
def mc180 (pc : Nat) : Option En := bif Nat.blt pc 66 then (bif Nat.blt pc 32 then
(bif Nat.blt pc 16 then
(bif Nat.blt pc 9 then
(bif Nat.blt pc 4 then
(bif Nat.blt pc 1 then
(bif Nat.beq pc 0 then en (.aload_n 0) 0 0 0 0 else none) else
(bif Nat.beq pc 1 then en (.getfield 9) 5 0 1493 0 else none)) else
(bif Nat.blt pc 5 then
(bif Nat.beq pc 4 then en (.iload_n 1) 0 0 0 0 else none) else
(bif Nat.blt pc 8 then
(bif Nat.beq pc 5 then en (.invokestatic 61) 154 1 1612 0 else none) else
(bif Nat.beq pc 8 then en (.iconst 4) 0 0 0 0 else none)))) else
(bif Nat.blt pc 11 then
(bif Nat.blt pc 10 then
(bif Nat.beq pc 9 then en (.iadd) 0 0 0 0 else none) else
(bif Nat.beq pc 10 then en (.iconst 1) 0 0 0 0 else none)) else
(bif Nat.blt pc 12 then
(bif Nat.beq pc 11 then en (.iastore) 0 0 0 0 else none) else
(bif Nat.blt pc 13 then
(bif Nat.beq pc 12 then en (.aload_n 0) 0 0 0 0 else none) else
(bif Nat.beq pc 13 then en (.getfield 9) 5 0 1493 0 else none))))) else
(bif Nat.blt pc 23 then
(bif Nat.blt pc 20 then
(bif Nat.blt pc 17 then
(bif Nat.beq pc 16 then en (.iload_n 1) 0 0 0 0 else none) else
(bif Nat.beq pc 17 then en (.invokestatic 61) 154 1 1612 0 else none)) else
(bif Nat.blt pc 21 then
(bif Nat.beq pc 20 then en (.iconst 5) 0 0 0 0 else none) else
(bif Nat.blt pc 22 then
(bif Nat.beq pc 21 then en (.iadd) 0 0 0 0 else none) else
(bif Nat.beq pc 22 then en (.iload_n 2) 0 0 0 0 else none)))) else
(bif Nat.blt pc 25 then
(bif Nat.blt pc 24 then
(bif Nat.beq pc 23 then en (.iastore) 0 0 0 0 else none) else
(bif Nat.beq pc 24 then en (.aload_n 0) 0 0 0 0 else none)) else
(bif Nat.blt pc 28 then
(bif Nat.beq pc 25 then en (.getfield 9) 5 0 1493 0 else none) else
(bif Nat.blt pc 29 then
(bif Nat.beq pc 28 then en (.iload_n 1) 0 0 0 0 else none) else
(bif Nat.beq pc 29 then en (.invokestatic 61) 154 1 1612 0 else none)))))) else
(bif Nat.blt pc 49 then
(bif Nat.blt pc 38 then
(bif Nat.blt pc 35 then
(bif Nat.blt pc 34 then
(bif Nat.beq pc 32 then en (.bipush 6) 0 0 0 0 else none) else
(bif Nat.beq pc 34 then en (.iadd) 0 0 0 0 else none)) else
(bif Nat.blt pc 36 then
(bif Nat.beq pc 35 then en (.iconst 0) 0 0 0 0 else none) else
(bif Nat.blt pc 37 then
(bif Nat.beq pc 36 then en (.iastore) 0 0 0 0 else none) else
(bif Nat.beq pc 37 then en (.aload_n 0) 0 0 0 0 else none)))) else
(bif Nat.blt pc 42 then
(bif Nat.blt pc 41 then
(bif Nat.beq pc 38 then en (.getfield 35) 5 12 1505 0 else none) else
(bif Nat.beq pc 41 then en (.aload_n 0) 0 0 0 0 else none)) else
(bif Nat.blt pc 45 then
(bif Nat.beq pc 42 then en (.getfield 138) 5 13 1506 0 else none) else
(bif Nat.blt pc 46 then
(bif Nat.beq pc 45 then en (.aload_n 0) 0 0 0 0 else none) else
(bif Nat.beq pc 46 then en (.getfield 9) 5 0 1493 0 else none))))) else
(bif Nat.blt pc 56 then
(bif Nat.blt pc 53 then
(bif Nat.blt pc 50 then
(bif Nat.beq pc 49 then en (.iload_n 1) 0 0 0 0 else none) else
(bif Nat.beq pc 50 then en (.invokestatic 61) 154 1 1612 0 else none)) else
(bif Nat.blt pc 54 then
(bif Nat.beq pc 53 then en (.iaload) 0 0 0 0 else none) else
(bif Nat.blt pc 55 then
(bif Nat.beq pc 54 then en (.iastore) 0 0 0 0 else none) else
(bif Nat.beq pc 55 then en (.aload_n 0) 0 0 0 0 else none)))) else
(bif Nat.blt pc 61 then
(bif Nat.blt pc 57 then
(bif Nat.beq pc 56 then en (.dup) 0 0 0 0 else none) else
(bif Nat.blt pc 60 then
(bif Nat.beq pc 57 then en (.getfield 138) 5 13 1506 0 else none) else
(bif Nat.beq pc 60 then en (.iconst 1) 0 0 0 0 else none))) else
(bif Nat.blt pc 62 then
(bif Nat.beq pc 61 then en (.iadd) 0 0 0 0 else none) else
(bif Nat.blt pc 65 then
(bif Nat.beq pc 62 then en (.putfield 138) 5 13 1506 0 else none) else
(bif Nat.beq pc 65 then en (.return_) 0 0 0 0 else none))))))) else none
/-- SingleTrackLineModel.finishes(I)V -/
def mc181 (pc : Nat) : Option En := bif Nat.blt pc 105 then (bif Nat.blt pc 53 then
(bif Nat.blt pc 25 then
(bif Nat.blt pc 12 then
(bif Nat.blt pc 6 then
(bif Nat.blt pc 4 then
(bif Nat.blt pc 1 then
(bif Nat.beq pc 0 then en (.aload_n 0) 0 0 0 0 else none) else
(bif Nat.beq pc 1 then en (.getfield 9) 5 0 1493 0 else none)) else
(bif Nat.blt pc 5 then
(bif Nat.beq pc 4 then en (.iconst 3) 0 0 0 0 else none) else
(bif Nat.beq pc 5 then en (.iaload) 0 0 0 0 else none))) else
(bif Nat.blt pc 8 then
(bif Nat.blt pc 7 then
(bif Nat.beq pc 6 then en (.aload_n 0) 0 0 0 0 else none) else
(bif Nat.beq pc 7 then en (.iload_n 1) 0 0 0 0 else none)) else
(bif Nat.blt pc 11 then
(bif Nat.beq pc 8 then en (.invokevirtual 141) 165 0 1689 5305 else none) else
(bif Nat.beq pc 11 then en (.isub) 0 0 0 0 else none)))) else
(bif Nat.blt pc 19 then
(bif Nat.blt pc 14 then
(bif Nat.blt pc 13 then
(bif Nat.beq pc 12 then en (.istore_n 2) 0 0 0 0 else none) else
(bif Nat.beq pc 13 then en (.aload_n 0) 0 0 0 0 else none)) else
(bif Nat.blt pc 17 then
(bif Nat.beq pc 14 then en (.getfield 9) 5 0 1493 0 else none) else
(bif Nat.beq pc 17 then en (.bipush 6) 0 0 0 0 else none))) else
(bif Nat.blt pc 23 then
(bif Nat.blt pc 20 then
(bif Nat.beq pc 19 then en (.aload_n 0) 0 0 0 0 else none) else
(bif Nat.beq pc 20 then en (.getfield 9) 5 0 1493 0 else none)) else
(bif Nat.blt pc 24 then
(bif Nat.beq pc 23 then en (.iconst 4) 0 0 0 0 else none) else
(bif Nat.beq pc 24 then en (.iaload) 0 0 0 0 else none))))) else
(bif Nat.blt pc 40 then
(bif Nat.blt pc 33 then
(bif Nat.blt pc 29 then
(bif Nat.blt pc 28 then
(bif Nat.beq pc 25 then en (.ifCond .ne 7) 32 0 0 0 else none) else
(bif Nat.beq pc 28 then en (.iload_n 2) 0 0 0 0 else none)) else
(bif Nat.blt pc 32 then
(bif Nat.beq pc 29 then en (.goto 14) 43 0 0 0 else none) else
(bif Nat.beq pc 32 then en (.aload_n 0) 0 0 0 0 else none))) else
(bif Nat.blt pc 38 then
(bif Nat.blt pc 36 then
(bif Nat.beq pc 33 then en (.getfield 9) 5 0 1493 0 else none) else
(bif Nat.beq pc 36 then en (.bipush 6) 0 0 0 0 else none)) else
(bif Nat.blt pc 39 then
(bif Nat.beq pc 38 then en (.iaload) 0 0 0 0 else none) else
(bif Nat.beq pc 39 then en (.iload_n 2) 0 0 0 0 else none)))) else
(bif Nat.blt pc 48 then
(bif Nat.blt pc 44 then
(bif Nat.blt pc 43 then
(bif Nat.beq pc 40 then en (.invokestatic 83) 0 8 1698 0 else none) else
(bif Nat.beq pc 43 then en (.iastore) 0 0 0 0 else none)) else
(bif Nat.blt pc 45 then
(bif Nat.beq pc 44 then en (.aload_n 0) 0 0 0 0 else none) else
(bif Nat.beq pc 45 then en (.getfield 9) 5 0 1493 0 else none))) else
(bif Nat.blt pc 50 then
(bif Nat.blt pc 49 then
(bif Nat.beq pc 48 then en (.iconst 4) 0 0 0 0 else none) else
(bif Nat.beq pc 49 then en (.dup2) 0 0 0 0 else none)) else
(bif Nat.blt pc 51 then
(bif Nat.beq pc 50 then en (.iaload) 0 0 0 0 else none) else
(bif Nat.blt pc 52 then
(bif Nat.beq pc 51 then en (.iconst 1) 0 0 0 0 else none) else
(bif Nat.beq pc 52 then en (.iadd) 0 0 0 0 else none))))))) else
(bif Nat.blt pc 80 then
(bif Nat.blt pc 66 then
(bif Nat.blt pc 60 then
(bif Nat.blt pc 55 then
(bif Nat.blt pc 54 then
(bif Nat.beq pc 53 then en (.iastore) 0 0 0 0 else none) else
(bif Nat.beq pc 54 then en (.aload_n 0) 0 0 0 0 else none)) else
(bif Nat.blt pc 58 then
(bif Nat.beq pc 55 then en (.getfield 9) 5 0 1493 0 else none) else
(bif Nat.beq pc 58 then en (.bipush 7) 0 0 0 0 else none))) else
(bif Nat.blt pc 62 then
(bif Nat.blt pc 61 then
(bif Nat.beq pc 60 then en (.dup2) 0 0 0 0 else none) else
(bif Nat.beq pc 61 then en (.iaload) 0 0 0 0 else none)) else
(bif Nat.blt pc 63 then
(bif Nat.beq pc 62 then en (.iload_n 2) 0 0 0 0 else none) else
(bif Nat.beq pc 63 then en (.ifCond .ne 7) 70 0 0 0 else none)))) else
(bif Nat.blt pc 72 then
(bif Nat.blt pc 70 then
(bif Nat.blt pc 67 then
(bif Nat.beq pc 66 then en (.iconst 1) 0 0 0 0 else none) else
(bif Nat.beq pc 67 then en (.goto 4) 71 0 0 0 else none)) else
(bif Nat.blt pc 71 then
(bif Nat.beq pc 70 then en (.iconst 0) 0 0 0 0 else none) else
(bif Nat.beq pc 71 then en (.iadd) 0 0 0 0 else none))) else
(bif Nat.blt pc 74 then
(bif Nat.blt pc 73 then
(bif Nat.beq pc 72 then en (.iastore) 0 0 0 0 else none) else
(bif Nat.beq pc 73 then en (.aload_n 0) 0 0 0 0 else none)) else
(bif Nat.blt pc 77 then
(bif Nat.beq pc 74 then en (.getfield 9) 5 0 1493 0 else none) else
(bif Nat.blt pc 79 then
(bif Nat.beq pc 77 then en (.bipush 8) 0 0 0 0 else none) else
(bif Nat.beq pc 79 then en (.dup2) 0 0 0 0 else none)))))) else
(bif Nat.blt pc 90 then
(bif Nat.blt pc 84 then
(bif Nat.blt pc 82 then
(bif Nat.blt pc 81 then
(bif Nat.beq pc 80 then en (.iaload) 0 0 0 0 else none) else
(bif Nat.beq pc 81 then en (.iload_n 2) 0 0 0 0 else none)) else
(bif Nat.blt pc 83 then
(bif Nat.beq pc 82 then en (.iadd) 0 0 0 0 else none) else
(bif Nat.beq pc 83 then en (.iastore) 0 0 0 0 else none))) else
(bif Nat.blt pc 88 then
(bif Nat.blt pc 85 then
(bif Nat.beq pc 84 then en (.aload_n 0) 0 0 0 0 else none) else
(bif Nat.beq pc 85 then en (.getfield 9) 5 0 1493 0 else none)) else
(bif Nat.blt pc 89 then
(bif Nat.beq pc 88 then en (.iconst 5) 0 0 0 0 else none) else
(bif Nat.beq pc 89 then en (.aload_n 0) 0 0 0 0 else none)))) else
(bif Nat.blt pc 98 then
(bif Nat.blt pc 94 then
(bif Nat.blt pc 93 then
(bif Nat.beq pc 90 then en (.getfield 9) 5 0 1493 0 else none) else
(bif Nat.beq pc 93 then en (.iload_n 1) 0 0 0 0 else none)) else
(bif Nat.blt pc 97 then
(bif Nat.beq pc 94 then en (.invokestatic 61) 154 1 1612 0 else none) else
(bif Nat.beq pc 97 then en (.iaload) 0 0 0 0 else none))) else
(bif Nat.blt pc 100 then
(bif Nat.blt pc 99 then
(bif Nat.beq pc 98 then en (.iastore) 0 0 0 0 else none) else
(bif Nat.beq pc 99 then en (.aload_n 0) 0 0 0 0 else none)) else
(bif Nat.blt pc 101 then
(bif Nat.beq pc 100 then en (.iload_n 1) 0 0 0 0 else none) else
(bif Nat.blt pc 104 then
(bif Nat.beq pc 101 then en (.invokevirtual 131) 166 0 1660 4705 else none) else
(bif Nat.beq pc 104 then en (.return_) 0 0 0 0 else none)))))))) else none
/-- SingleTrackLineModel.runsOn()V -/
def mc182 (pc : Nat) : Option En := bif Nat.blt pc 98 then (bif Nat.blt pc 45 then
(bif Nat.blt pc 21 then
(bif Nat.blt pc 9 then
(bif Nat.blt pc 3 then
(bif Nat.blt pc 1 then
(bif Nat.beq pc 0 then en (.iconst 0) 0 0 0 0 else none) else
(bif Nat.blt pc 2 then
(bif Nat.beq pc 1 then en (.istore_n 1) 0 0 0 0 else none) else
(bif Nat.beq pc 2 then en (.iload_n 1) 0 0 0 0 else none))) else
(bif Nat.blt pc 7 then
(bif Nat.blt pc 4 then
(bif Nat.beq pc 3 then en (.aload_n 0) 0 0 0 0 else none) else
(bif Nat.beq pc 4 then en (.getfield 9) 5 0 1493 0 else none)) else
(bif Nat.blt pc 8 then
(bif Nat.beq pc 7 then en (.iconst 0) 0 0 0 0 else none) else
(bif Nat.beq pc 8 then en (.iaload) 0 0 0 0 else none)))) else
(bif Nat.blt pc 15 then
(bif Nat.blt pc 11 then
(bif Nat.blt pc 10 then
(bif Nat.beq pc 9 then en (.iconst 1) 0 0 0 0 else none) else
(bif Nat.beq pc 10 then en (.isub) 0 0 0 0 else none)) else
(bif Nat.blt pc 14 then
(bif Nat.beq pc 11 then en (.if_icmp .ge 86) 97 0 0 0 else none) else
(bif Nat.beq pc 14 then en (.aload_n 0) 0 0 0 0 else none))) else
(bif Nat.blt pc 19 then
(bif Nat.blt pc 16 then
(bif Nat.beq pc 15 then en (.iload_n 1) 0 0 0 0 else none) else
(bif Nat.beq pc 16 then en (.invokevirtual 144) 160 0 1681 5105 else none)) else
(bif Nat.blt pc 20 then
(bif Nat.beq pc 19 then en (.istore_n 2) 0 0 0 0 else none) else
(bif Nat.beq pc 20 then en (.iload_n 2) 0 0 0 0 else none))))) else
(bif Nat.blt pc 35 then
(bif Nat.blt pc 26 then
(bif Nat.blt pc 22 then
(bif Nat.beq pc 21 then en (.iconst (-1)) 0 0 0 0 else none) else
(bif Nat.blt pc 25 then
(bif Nat.beq pc 22 then en (.if_icmp .eq 69) 91 0 0 0 else none) else
(bif Nat.beq pc 25 then en (.aload_n 0) 0 0 0 0 else none))) else
(bif Nat.blt pc 30 then
(bif Nat.blt pc 29 then
(bif Nat.beq pc 26 then en (.getfield 9) 5 0 1493 0 else none) else
(bif Nat.beq pc 29 then en (.iload_n 2) 0 0 0 0 else none)) else
(bif Nat.blt pc 33 then
(bif Nat.beq pc 30 then en (.invokestatic 61) 154 1 1612 0 else none) else
(bif Nat.beq pc 33 then en (.bipush 6) 0 0 0 0 else none)))) else
(bif Nat.blt pc 39 then
(bif Nat.blt pc 37 then
(bif Nat.blt pc 36 then
(bif Nat.beq pc 35 then en (.iadd) 0 0 0 0 else none) else
(bif Nat.beq pc 36 then en (.dup2) 0 0 0 0 else none)) else
(bif Nat.blt pc 38 then
(bif Nat.beq pc 37 then en (.iaload) 0 0 0 0 else none) else
(bif Nat.beq pc 38 then en (.iconst 1) 0 0 0 0 else none))) else
(bif Nat.blt pc 41 then
(bif Nat.blt pc 40 then
(bif Nat.beq pc 39 then en (.isub) 0 0 0 0 else none) else
(bif Nat.beq pc 40 then en (.iastore) 0 0 0 0 else none)) else
(bif Nat.blt pc 42 then
(bif Nat.beq pc 41 then en (.aload_n 0) 0 0 0 0 else none) else
(bif Nat.beq pc 42 then en (.getfield 9) 5 0 1493 0 else none)))))) else
(bif Nat.blt pc 71 then
(bif Nat.blt pc 57 then
(bif Nat.blt pc 51 then
(bif Nat.blt pc 46 then
(bif Nat.beq pc 45 then en (.iload_n 2) 0 0 0 0 else none) else
(bif Nat.blt pc 49 then
(bif Nat.beq pc 46 then en (.invokestatic 61) 154 1 1612 0 else none) else
(bif Nat.beq pc 49 then en (.bipush 6) 0 0 0 0 else none))) else
(bif Nat.blt pc 53 then
(bif Nat.blt pc 52 then
(bif Nat.beq pc 51 then en (.iadd) 0 0 0 0 else none) else
(bif Nat.beq pc 52 then en (.iaload) 0 0 0 0 else none)) else
(bif Nat.blt pc 56 then
(bif Nat.beq pc 53 then en (.ifCond .ne 38) 91 0 0 0 else none) else
(bif Nat.beq pc 56 then en (.aload_n 0) 0 0 0 0 else none)))) else
(bif Nat.blt pc 63 then
(bif Nat.blt pc 61 then
(bif Nat.blt pc 58 then
(bif Nat.beq pc 57 then en (.iload_n 2) 0 0 0 0 else none) else
(bif Nat.beq pc 58 then en (.invokevirtual 71) 159 0 1615 4005 else none)) else
(bif Nat.blt pc 62 then
(bif Nat.beq pc 61 then en (.istore_n 3) 0 0 0 0 else none) else
(bif Nat.beq pc 62 then en (.iload_n 3) 0 0 0 0 else none))) else
(bif Nat.blt pc 67 then
(bif Nat.blt pc 64 then
(bif Nat.beq pc 63 then en (.aload_n 0) 0 0 0 0 else none) else
(bif Nat.beq pc 64 then en (.getfield 9) 5 0 1493 0 else none)) else
(bif Nat.blt pc 68 then
(bif Nat.beq pc 67 then en (.iload_n 2) 0 0 0 0 else none) else
(bif Nat.beq pc 68 then en (.invokestatic 61) 154 1 1612 0 else none))))) else
(bif Nat.blt pc 82 then
(bif Nat.blt pc 74 then
(bif Nat.blt pc 72 then
(bif Nat.beq pc 71 then en (.iconst 2) 0 0 0 0 else none) else
(bif Nat.blt pc 73 then
(bif Nat.beq pc 72 then en (.iadd) 0 0 0 0 else none) else
(bif Nat.beq pc 73 then en (.iaload) 0 0 0 0 else none))) else
(bif Nat.blt pc 78 then
(bif Nat.blt pc 77 then
(bif Nat.beq pc 74 then en (.if_icmp .ne 11) 85 0 0 0 else none) else
(bif Nat.beq pc 77 then en (.aload_n 0) 0 0 0 0 else none)) else
(bif Nat.blt pc 79 then
(bif Nat.beq pc 78 then en (.iload_n 2) 0 0 0 0 else none) else
(bif Nat.beq pc 79 then en (.invokevirtual 147) 181 0 1685 5205 else none)))) else
(bif Nat.blt pc 88 then
(bif Nat.blt pc 86 then
(bif Nat.blt pc 85 then
(bif Nat.beq pc 82 then en (.goto 9) 91 0 0 0 else none) else
(bif Nat.beq pc 85 then en (.aload_n 0) 0 0 0 0 else none)) else
(bif Nat.blt pc 87 then
(bif Nat.beq pc 86 then en (.iload_n 2) 0 0 0 0 else none) else
(bif Nat.beq pc 87 then en (.iload_n 3) 0 0 0 0 else none))) else
(bif Nat.blt pc 94 then
(bif Nat.blt pc 91 then
(bif Nat.beq pc 88 then en (.invokevirtual 150) 180 0 1700 5505 else none) else
(bif Nat.beq pc 91 then en (.iinc 1 1) 0 0 0 0 else none)) else
(bif Nat.blt pc 97 then
(bif Nat.beq pc 94 then en (.goto (-92)) 2 0 0 0 else none) else
(bif Nat.beq pc 97 then en (.return_) 0 0 0 0 else none))))))) else none
/-- SingleTrackLineModel.begins()V -/
def mc183 (pc : Nat) : Option En := bif Nat.blt pc 97 then (bif Nat.blt pc 46 then
(bif Nat.blt pc 22 then
(bif Nat.blt pc 9 then
(bif Nat.blt pc 3 then
(bif Nat.blt pc 1 then
(bif Nat.beq pc 0 then en (.iconst 0) 0 0 0 0 else none) else
(bif Nat.blt pc 2 then
(bif Nat.beq pc 1 then en (.istore_n 1) 0 0 0 0 else none) else
(bif Nat.beq pc 2 then en (.iload_n 1) 0 0 0 0 else none))) else
(bif Nat.blt pc 7 then
(bif Nat.blt pc 4 then
(bif Nat.beq pc 3 then en (.aload_n 0) 0 0 0 0 else none) else
(bif Nat.beq pc 4 then en (.getfield 9) 5 0 1493 0 else none)) else
(bif Nat.blt pc 8 then
(bif Nat.beq pc 7 then en (.iconst 1) 0 0 0 0 else none) else
(bif Nat.beq pc 8 then en (.iaload) 0 0 0 0 else none)))) else
(bif Nat.blt pc 16 then
(bif Nat.blt pc 12 then
(bif Nat.beq pc 9 then en (.if_icmp .ge 87) 96 0 0 0 else none) else
(bif Nat.blt pc 13 then
(bif Nat.beq pc 12 then en (.aload_n 0) 0 0 0 0 else none) else
(bif Nat.beq pc 13 then en (.getfield 9) 5 0 1493 0 else none))) else
(bif Nat.blt pc 20 then
(bif Nat.blt pc 17 then
(bif Nat.beq pc 16 then en (.iload_n 1) 0 0 0 0 else none) else
(bif Nat.beq pc 17 then en (.invokestatic 61) 154 1 1612 0 else none)) else
(bif Nat.blt pc 21 then
(bif Nat.beq pc 20 then en (.iconst 4) 0 0 0 0 else none) else
(bif Nat.beq pc 21 then en (.iadd) 0 0 0 0 else none))))) else
(bif Nat.blt pc 35 then
(bif Nat.blt pc 27 then
(bif Nat.blt pc 23 then
(bif Nat.beq pc 22 then en (.iaload) 0 0 0 0 else none) else
(bif Nat.blt pc 26 then
(bif Nat.beq pc 23 then en (.ifCond .ne 27) 50 0 0 0 else none) else
(bif Nat.beq pc 26 then en (.aload_n 0) 0 0 0 0 else none))) else
(bif Nat.blt pc 31 then
(bif Nat.blt pc 30 then
(bif Nat.beq pc 27 then en (.getfield 9) 5 0 1493 0 else none) else
(bif Nat.beq pc 30 then en (.iload_n 1) 0 0 0 0 else none)) else
(bif Nat.blt pc 34 then
(bif Nat.beq pc 31 then en (.invokestatic 61) 154 1 1612 0 else none) else
(bif Nat.beq pc 34 then en (.iconst 3) 0 0 0 0 else none)))) else
(bif Nat.blt pc 38 then
(bif Nat.blt pc 36 then
(bif Nat.beq pc 35 then en (.iadd) 0 0 0 0 else none) else
(bif Nat.blt pc 37 then
(bif Nat.beq pc 36 then en (.iaload) 0 0 0 0 else none) else
(bif Nat.beq pc 37 then en (.aload_n 0) 0 0 0 0 else none))) else
(bif Nat.blt pc 42 then
(bif Nat.blt pc 41 then
(bif Nat.beq pc 38 then en (.getfield 9) 5 0 1493 0 else none) else
(bif Nat.beq pc 41 then en (.iconst 3) 0 0 0 0 else none)) else
(bif Nat.blt pc 43 then
(bif Nat.beq pc 42 then en (.iaload) 0 0 0 0 else none) else
(bif Nat.beq pc 43 then en (.if_icmp .gt 7) 50 0 0 0 else none)))))) else
(bif Nat.blt pc 68 then
(bif Nat.blt pc 57 then
(bif Nat.blt pc 51 then
(bif Nat.blt pc 47 then
(bif Nat.beq pc 46 then en (.iconst 1) 0 0 0 0 else none) else
(bif Nat.blt pc 50 then
(bif Nat.beq pc 47 then en (.goto 4) 51 0 0 0 else none) else
(bif Nat.beq pc 50 then en (.iconst 0) 0 0 0 0 else none))) else
(bif Nat.blt pc 53 then
(bif Nat.blt pc 52 then
(bif Nat.beq pc 51 then en (.istore_n 2) 0 0 0 0 else none) else
(bif Nat.beq pc 52 then en (.iload_n 2) 0 0 0 0 else none)) else
(bif Nat.blt pc 56 then
(bif Nat.beq pc 53 then en (.ifCond .eq 37) 90 0 0 0 else none) else
(bif Nat.beq pc 56 then en (.aload_n 0) 0 0 0 0 else none)))) else
(bif Nat.blt pc 62 then
(bif Nat.blt pc 58 then
(bif Nat.beq pc 57 then en (.aload_n 0) 0 0 0 0 else none) else
(bif Nat.blt pc 61 then
(bif Nat.beq pc 58 then en (.getfield 9) 5 0 1493 0 else none) else
(bif Nat.beq pc 61 then en (.iload_n 1) 0 0 0 0 else none))) else
(bif Nat.blt pc 66 then
(bif Nat.blt pc 65 then
(bif Nat.beq pc 62 then en (.invokestatic 61) 154 1 1612 0 else none) else
(bif Nat.beq pc 65 then en (.iconst 1) 0 0 0 0 else none)) else
(bif Nat.blt pc 67 then
(bif Nat.beq pc 66 then en (.iadd) 0 0 0 0 else none) else
(bif Nat.beq pc 67 then en (.iaload) 0 0 0 0 else none))))) else
(bif Nat.blt pc 81 then
(bif Nat.blt pc 75 then
(bif Nat.blt pc 71 then
(bif Nat.beq pc 68 then en (.invokevirtual 154) 163 0 1708 5705 else none) else
(bif Nat.blt pc 74 then
(bif Nat.beq pc 71 then en (.ifCond .le 19) 90 0 0 0 else none) else
(bif Nat.beq pc 74 then en (.aload_n 0) 0 0 0 0 else none))) else
(bif Nat.blt pc 77 then
(bif Nat.blt pc 76 then
(bif Nat.beq pc 75 then en (.iload_n 1) 0 0 0 0 else none) else
(bif Nat.beq pc 76 then en (.aload_n 0) 0 0 0 0 else none)) else
(bif Nat.blt pc 80 then
(bif Nat.beq pc 77 then en (.getfield 9) 5 0 1493 0 else none) else
(bif Nat.beq pc 80 then en (.iload_n 1) 0 0 0 0 else none)))) else
(bif Nat.blt pc 87 then
(bif Nat.blt pc 85 then
(bif Nat.blt pc 84 then
(bif Nat.beq pc 81 then en (.invokestatic 61) 154 1 1612 0 else none) else
(bif Nat.beq pc 84 then en (.iconst 1) 0 0 0 0 else none)) else
(bif Nat.blt pc 86 then
(bif Nat.beq pc 85 then en (.iadd) 0 0 0 0 else none) else
(bif Nat.beq pc 86 then en (.iaload) 0 0 0 0 else none))) else
(bif Nat.blt pc 93 then
(bif Nat.blt pc 90 then
(bif Nat.beq pc 87 then en (.invokevirtual 150) 180 0 1700 5505 else none) else
(bif Nat.beq pc 90 then en (.iinc 1 1) 0 0 0 0 else none)) else
(bif Nat.blt pc 96 then
(bif Nat.beq pc 93 then en (.goto (-91)) 2 0 0 0 else none) else
(bif Nat.beq pc 96 then en (.return_) 0 0 0 0 else none))))))) else none
/-- SingleTrackLineModel.triesToLeave(I)V -/
def mc184 (pc : Nat) : Option En := bif Nat.blt pc 135 then (bif Nat.blt pc 68 then
(bif Nat.blt pc 34 then
(bif Nat.blt pc 19 then
(bif Nat.blt pc 7 then
(bif Nat.blt pc 4 then
(bif Nat.blt pc 1 then
(bif Nat.beq pc 0 then en (.iload_n 1) 0 0 0 0 else none) else
(bif Nat.beq pc 1 then en (.invokestatic 61) 154 1 1612 0 else none)) else
(bif Nat.blt pc 5 then
(bif Nat.beq pc 4 then en (.istore_n 2) 0 0 0 0 else none) else
(bif Nat.blt pc 6 then
(bif Nat.beq pc 5 then en (.aload_n 0) 0 0 0 0 else none) else
(bif Nat.beq pc 6 then en (.iload_n 1) 0 0 0 0 else none)))) else
(bif Nat.blt pc 14 then
(bif Nat.blt pc 10 then
(bif Nat.beq pc 7 then en (.invokevirtual 65) 158 0 1619 4105 else none) else
(bif Nat.blt pc 13 then
(bif Nat.beq pc 10 then en (.ifCond .le 14) 24 0 0 0 else none) else
(bif Nat.beq pc 13 then en (.aload_n 0) 0 0 0 0 else none))) else
(bif Nat.blt pc 17 then
(bif Nat.beq pc 14 then en (.getfield 9) 5 0 1493 0 else none) else
(bif Nat.blt pc 18 then
(bif Nat.beq pc 17 then en (.iload_n 2) 0 0 0 0 else none) else
(bif Nat.beq pc 18 then en (.iconst 5) 0 0 0 0 else none))))) else
(bif Nat.blt pc 28 then
(bif Nat.blt pc 21 then
(bif Nat.blt pc 20 then
(bif Nat.beq pc 19 then en (.iadd) 0 0 0 0 else none) else
(bif Nat.beq pc 20 then en (.iaload) 0 0 0 0 else none)) else
(bif Nat.blt pc 24 then
(bif Nat.beq pc 21 then en (.goto 13) 34 0 0 0 else none) else
(bif Nat.blt pc 25 then
(bif Nat.beq pc 24 then en (.aload_n 0) 0 0 0 0 else none) else
(bif Nat.beq pc 25 then en (.getfield 9) 5 0 1493 0 else none)))) else
(bif Nat.blt pc 31 then
(bif Nat.blt pc 29 then
(bif Nat.beq pc 28 then en (.iload_n 2) 0 0 0 0 else none) else
(bif Nat.blt pc 30 then
(bif Nat.beq pc 29 then en (.iconst 5) 0 0 0 0 else none) else
(bif Nat.beq pc 30 then en (.iadd) 0 0 0 0 else none))) else
(bif Nat.blt pc 32 then
(bif Nat.beq pc 31 then en (.iaload) 0 0 0 0 else none) else
(bif Nat.blt pc 33 then
(bif Nat.beq pc 32 then en (.iconst 1) 0 0 0 0 else none) else
(bif Nat.beq pc 33 then en (.isub) 0 0 0 0 else none)))))) else
(bif Nat.blt pc 49 then
(bif Nat.blt pc 41 then
(bif Nat.blt pc 36 then
(bif Nat.blt pc 35 then
(bif Nat.beq pc 34 then en (.istore_n 3) 0 0 0 0 else none) else
(bif Nat.beq pc 35 then en (.aload_n 0) 0 0 0 0 else none)) else
(bif Nat.blt pc 39 then
(bif Nat.beq pc 36 then en (.getfield 9) 5 0 1493 0 else none) else
(bif Nat.blt pc 40 then
(bif Nat.beq pc 39 then en (.iload_n 2) 0 0 0 0 else none) else
(bif Nat.beq pc 40 then en (.iconst 5) 0 0 0 0 else none)))) else
(bif Nat.blt pc 44 then
(bif Nat.blt pc 42 then
(bif Nat.beq pc 41 then en (.iadd) 0 0 0 0 else none) else
(bif Nat.blt pc 43 then
(bif Nat.beq pc 42 then en (.iaload) 0 0 0 0 else none) else
(bif Nat.beq pc 43 then en (.aload_n 0) 0 0 0 0 else none))) else
(bif Nat.blt pc 45 then
(bif Nat.beq pc 44 then en (.iload_n 1) 0 0 0 0 else none) else
(bif Nat.blt pc 48 then
(bif Nat.beq pc 45 then en (.invokevirtual 65) 158 0 1619 4105 else none) else
(bif Nat.beq pc 48 then en (.iadd) 0 0 0 0 else none))))) else
(bif Nat.blt pc 57 then
(bif Nat.blt pc 52 then
(bif Nat.blt pc 51 then
(bif Nat.beq pc 49 then en (.istore 4) 0 0 0 0 else none) else
(bif Nat.beq pc 51 then en (.aload_n 0) 0 0 0 0 else none)) else
(bif Nat.blt pc 53 then
(bif Nat.beq pc 52 then en (.iload_n 3) 0 0 0 0 else none) else
(bif Nat.blt pc 56 then
(bif Nat.beq pc 53 then en (.invokevirtual 144) 160 0 1681 5105 else none) else
(bif Nat.beq pc 56 then en (.iconst (-1)) 0 0 0 0 else none)))) else
(bif Nat.blt pc 63 then
(bif Nat.blt pc 60 then
(bif Nat.beq pc 57 then en (.if_icmp .ne 64) 121 0 0 0 else none) else
(bif Nat.blt pc 62 then
(bif Nat.beq pc 60 then en (.iload 4) 0 0 0 0 else none) else
(bif Nat.beq pc 62 then en (.aload_n 0) 0 0 0 0 else none))) else
(bif Nat.blt pc 66 then
(bif Nat.beq pc 63 then en (.getfield 9) 5 0 1493 0 else none) else
(bif Nat.blt pc 67 then
(bif Nat.beq pc 66 then en (.iload_n 2) 0 0 0 0 else none) else
(bif Nat.beq pc 67 then en (.iconst 2) 0 0 0 0 else none))))))) else
(bif Nat.blt pc 101 then
(bif Nat.blt pc 88 then
(bif Nat.blt pc 76 then
(bif Nat.blt pc 70 then
(bif Nat.blt pc 69 then
(bif Nat.beq pc 68 then en (.iadd) 0 0 0 0 else none) else
(bif Nat.beq pc 69 then en (.iaload) 0 0 0 0 else none)) else
(bif Nat.blt pc 73 then
(bif Nat.beq pc 70 then en (.if_icmp .eq 12) 82 0 0 0 else none) else
(bif Nat.blt pc 74 then
(bif Nat.beq pc 73 then en (.aload_n 0) 0 0 0 0 else none) else
(bif Nat.beq pc 74 then en (.iload 4) 0 0 0 0 else none)))) else
(bif Nat.blt pc 83 then
(bif Nat.blt pc 79 then
(bif Nat.beq pc 76 then en (.invokevirtual 154) 163 0 1708 5705 else none) else
(bif Nat.blt pc 82 then
(bif Nat.beq pc 79 then en (.ifCond .le 42) 121 0 0 0 else none) else
(bif Nat.beq pc 82 then en (.aload_n 0) 0 0 0 0 else none))) else
(bif Nat.blt pc 86 then
(bif Nat.beq pc 83 then en (.getfield 9) 5 0 1493 0 else none) else
(bif Nat.blt pc 87 then
(bif Nat.beq pc 86 then en (.iload_n 2) 0 0 0 0 else none) else
(bif Nat.beq pc 87 then en (.iconst 4) 0 0 0 0 else none))))) else
(bif Nat.blt pc 95 then
(bif Nat.blt pc 90 then
(bif Nat.blt pc 89 then
(bif Nat.beq pc 88 then en (.iadd) 0 0 0 0 else none) else
(bif Nat.beq pc 89 then en (.iconst 2) 0 0 0 0 else none)) else
(bif Nat.blt pc 91 then
(bif Nat.beq pc 90 then en (.iastore) 0 0 0 0 else none) else
(bif Nat.blt pc 92 then
(bif Nat.beq pc 91 then en (.aload_n 0) 0 0 0 0 else none) else
(bif Nat.beq pc 92 then en (.getfield 9) 5 0 1493 0 else none)))) else
(bif Nat.blt pc 98 then
(bif Nat.blt pc 96 then
(bif Nat.beq pc 95 then en (.iload_n 2) 0 0 0 0 else none) else
(bif Nat.blt pc 97 then
(bif Nat.beq pc 96 then en (.iconst 5) 0 0 0 0 else none) else
(bif Nat.beq pc 97 then en (.iadd) 0 0 0 0 else none))) else
(bif Nat.blt pc 99 then
(bif Nat.beq pc 98 then en (.iload_n 3) 0 0 0 0 else none) else
(bif Nat.blt pc 100 then
(bif Nat.beq pc 99 then en (.iastore) 0 0 0 0 else none) else
(bif Nat.beq pc 100 then en (.aload_n 0) 0 0 0 0 else none)))))) else
(bif Nat.blt pc 118 then
(bif Nat.blt pc 109 then
(bif Nat.blt pc 105 then
(bif Nat.blt pc 104 then
(bif Nat.beq pc 101 then en (.getfield 9) 5 0 1493 0 else none) else
(bif Nat.beq pc 104 then en (.iload_n 2) 0 0 0 0 else none)) else
(bif Nat.blt pc 107 then
(bif Nat.beq pc 105 then en (.bipush 6) 0 0 0 0 else none) else
(bif Nat.blt pc 108 then
(bif Nat.beq pc 107 then en (.iadd) 0 0 0 0 else none) else
(bif Nat.beq pc 108 then en (.aload_n 0) 0 0 0 0 else none)))) else
(bif Nat.blt pc 115 then
(bif Nat.blt pc 112 then
(bif Nat.beq pc 109 then en (.getfield 9) 5 0 1493 0 else none) else
(bif Nat.blt pc 114 then
(bif Nat.beq pc 112 then en (.bipush 16) 0 0 0 0 else none) else
(bif Nat.beq pc 114 then en (.iload_n 3) 0 0 0 0 else none))) else
(bif Nat.blt pc 116 then
(bif Nat.beq pc 115 then en (.iadd) 0 0 0 0 else none) else
(bif Nat.blt pc 117 then
(bif Nat.beq pc 116 then en (.iaload) 0 0 0 0 else none) else
(bif Nat.beq pc 117 then en (.iastore) 0 0 0 0 else none))))) else
(bif Nat.blt pc 129 then
(bif Nat.blt pc 125 then
(bif Nat.blt pc 121 then
(bif Nat.beq pc 118 then en (.goto 16) 134 0 0 0 else none) else
(bif Nat.blt pc 122 then
(bif Nat.beq pc 121 then en (.aload_n 0) 0 0 0 0 else none) else
(bif Nat.beq pc 122 then en (.getfield 9) 5 0 1493 0 else none))) else
(bif Nat.blt pc 126 then
(bif Nat.beq pc 125 then en (.iload_n 2) 0 0 0 0 else none) else
(bif Nat.blt pc 128 then
(bif Nat.beq pc 126 then en (.bipush 8) 0 0 0 0 else none) else
(bif Nat.beq pc 128 then en (.iadd) 0 0 0 0 else none)))) else
(bif Nat.blt pc 132 then
(bif Nat.blt pc 130 then
(bif Nat.beq pc 129 then en (.dup2) 0 0 0 0 else none) else
(bif Nat.blt pc 131 then
(bif Nat.beq pc 130 then en (.iaload) 0 0 0 0 else none) else
(bif Nat.beq pc 131 then en (.iconst 1) 0 0 0 0 else none))) else
(bif Nat.blt pc 133 then
(bif Nat.beq pc 132 then en (.iadd) 0 0 0 0 else none) else
(bif Nat.blt pc 134 then
(bif Nat.beq pc 133 then en (.iastore) 0 0 0 0 else none) else
(bif Nat.beq pc 134 then en (.return_) 0 0 0 0 else none)))))))) else none
/-- SingleTrackLineModel.visited(I)I -/
def mc185 (pc : Nat) : Option En := bif Nat.blt pc 99 then (bif Nat.blt pc 48 then
(bif Nat.blt pc 20 then
(bif Nat.blt pc 9 then
(bif Nat.blt pc 3 then
(bif Nat.blt pc 1 then
(bif Nat.beq pc 0 then en (.iconst 0) 0 0 0 0 else none) else
(bif Nat.blt pc 2 then
(bif Nat.beq pc 1 then en (.istore_n 2) 0 0 0 0 else none) else
(bif Nat.beq pc 2 then en (.iload_n 2) 0 0 0 0 else none))) else
(bif Nat.blt pc 7 then
(bif Nat.blt pc 4 then
(bif Nat.beq pc 3 then en (.aload_n 0) 0 0 0 0 else none) else
(bif Nat.beq pc 4 then en (.getfield 9) 5 0 1493 0 else none)) else
(bif Nat.blt pc 8 then
(bif Nat.beq pc 7 then en (.iconst 1) 0 0 0 0 else none) else
(bif Nat.beq pc 8 then en (.iaload) 0 0 0 0 else none)))) else
(bif Nat.blt pc 14 then
(bif Nat.blt pc 12 then
(bif Nat.beq pc 9 then en (.if_icmp .ge 88) 97 0 0 0 else none) else
(bif Nat.blt pc 13 then
(bif Nat.beq pc 12 then en (.iconst 0) 0 0 0 0 else none) else
(bif Nat.beq pc 13 then en (.istore_n 3) 0 0 0 0 else none))) else
(bif Nat.blt pc 17 then
(bif Nat.blt pc 15 then
(bif Nat.beq pc 14 then en (.iconst 0) 0 0 0 0 else none) else
(bif Nat.beq pc 15 then en (.istore 4) 0 0 0 0 else none)) else
(bif Nat.blt pc 19 then
(bif Nat.beq pc 17 then en (.iload 4) 0 0 0 0 else none) else
(bif Nat.beq pc 19 then en (.aload_n 0) 0 0 0 0 else none))))) else
(bif Nat.blt pc 34 then
(bif Nat.blt pc 25 then
(bif Nat.blt pc 23 then
(bif Nat.beq pc 20 then en (.getfield 9) 5 0 1493 0 else none) else
(bif Nat.blt pc 24 then
(bif Nat.beq pc 23 then en (.iconst 1) 0 0 0 0 else none) else
(bif Nat.beq pc 24 then en (.iaload) 0 0 0 0 else none))) else
(bif Nat.blt pc 29 then
(bif Nat.blt pc 28 then
(bif Nat.beq pc 25 then en (.if_icmp .ge 59) 84 0 0 0 else none) else
(bif Nat.beq pc 28 then en (.aload_n 0) 0 0 0 0 else none)) else
(bif Nat.blt pc 32 then
(bif Nat.beq pc 29 then en (.getfield 9) 5 0 1493 0 else none) else
(bif Nat.beq pc 32 then en (.iload 4) 0 0 0 0 else none)))) else
(bif Nat.blt pc 40 then
(bif Nat.blt pc 38 then
(bif Nat.blt pc 37 then
(bif Nat.beq pc 34 then en (.invokestatic 61) 154 1 1612 0 else none) else
(bif Nat.beq pc 37 then en (.iconst 3) 0 0 0 0 else none)) else
(bif Nat.blt pc 39 then
(bif Nat.beq pc 38 then en (.iadd) 0 0 0 0 else none) else
(bif Nat.beq pc 39 then en (.iaload) 0 0 0 0 else none))) else
(bif Nat.blt pc 44 then
(bif Nat.blt pc 41 then
(bif Nat.beq pc 40 then en (.aload_n 0) 0 0 0 0 else none) else
(bif Nat.beq pc 41 then en (.getfield 9) 5 0 1493 0 else none)) else
(bif Nat.blt pc 45 then
(bif Nat.beq pc 44 then en (.iload_n 2) 0 0 0 0 else none) else
(bif Nat.beq pc 45 then en (.invokestatic 61) 154 1 1612 0 else none)))))) else
(bif Nat.blt pc 72 then
(bif Nat.blt pc 57 then
(bif Nat.blt pc 51 then
(bif Nat.blt pc 49 then
(bif Nat.beq pc 48 then en (.iconst 3) 0 0 0 0 else none) else
(bif Nat.blt pc 50 then
(bif Nat.beq pc 49 then en (.iadd) 0 0 0 0 else none) else
(bif Nat.beq pc 50 then en (.iaload) 0 0 0 0 else none))) else
(bif Nat.blt pc 54 then
(bif Nat.blt pc 52 then
(bif Nat.beq pc 51 then en (.isub) 0 0 0 0 else none) else
(bif Nat.beq pc 52 then en (.istore 5) 0 0 0 0 else none)) else
(bif Nat.blt pc 55 then
(bif Nat.beq pc 54 then en (.iload_n 3) 0 0 0 0 else none) else
(bif Nat.beq pc 55 then en (.iload 5) 0 0 0 0 else none)))) else
(bif Nat.blt pc 65 then
(bif Nat.blt pc 60 then
(bif Nat.beq pc 57 then en (.ifCond .lt 14) 71 0 0 0 else none) else
(bif Nat.blt pc 62 then
(bif Nat.beq pc 60 then en (.iload 5) 0 0 0 0 else none) else
(bif Nat.beq pc 62 then en (.ifCond .ne 13) 75 0 0 0 else none))) else
(bif Nat.blt pc 68 then
(bif Nat.blt pc 67 then
(bif Nat.beq pc 65 then en (.iload 4) 0 0 0 0 else none) else
(bif Nat.beq pc 67 then en (.iload_n 2) 0 0 0 0 else none)) else
(bif Nat.blt pc 71 then
(bif Nat.beq pc 68 then en (.if_icmp .ge 7) 75 0 0 0 else none) else
(bif Nat.beq pc 71 then en (.iconst 1) 0 0 0 0 else none))))) else
(bif Nat.blt pc 85 then
(bif Nat.blt pc 77 then
(bif Nat.blt pc 75 then
(bif Nat.beq pc 72 then en (.goto 4) 76 0 0 0 else none) else
(bif Nat.blt pc 76 then
(bif Nat.beq pc 75 then en (.iconst 0) 0 0 0 0 else none) else
(bif Nat.beq pc 76 then en (.iadd) 0 0 0 0 else none))) else
(bif Nat.blt pc 81 then
(bif Nat.blt pc 78 then
(bif Nat.beq pc 77 then en (.istore_n 3) 0 0 0 0 else none) else
(bif Nat.beq pc 78 then en (.iinc 4 1) 0 0 0 0 else none)) else
(bif Nat.blt pc 84 then
(bif Nat.beq pc 81 then en (.goto (-64)) 17 0 0 0 else none) else
(bif Nat.beq pc 84 then en (.iload_n 3) 0 0 0 0 else none)))) else
(bif Nat.blt pc 91 then
(bif Nat.blt pc 89 then
(bif Nat.blt pc 86 then
(bif Nat.beq pc 85 then en (.iload_n 1) 0 0 0 0 else none) else
(bif Nat.beq pc 86 then en (.if_icmp .ne 5) 91 0 0 0 else none)) else
(bif Nat.blt pc 90 then
(bif Nat.beq pc 89 then en (.iload_n 2) 0 0 0 0 else none) else
(bif Nat.beq pc 90 then en (.ireturn) 0 0 0 0 else none))) else
(bif Nat.blt pc 97 then
(bif Nat.blt pc 94 then
(bif Nat.beq pc 91 then en (.iinc 2 1) 0 0 0 0 else none) else
(bif Nat.beq pc 94 then en (.goto (-92)) 2 0 0 0 else none)) else
(bif Nat.blt pc 98 then
(bif Nat.beq pc 97 then en (.iconst (-1)) 0 0 0 0 else none) else
(bif Nat.beq pc 98 then en (.ireturn) 0 0 0 0 else none))))))) else none
/-- SingleTrackLineModel.minute()V -/
def mc186 (pc : Nat) : Option En := bif Nat.blt pc 95 then (bif Nat.blt pc 45 then
(bif Nat.blt pc 20 then
(bif Nat.blt pc 9 then
(bif Nat.blt pc 5 then
(bif Nat.blt pc 1 then
(bif Nat.beq pc 0 then en (.aload_n 0) 0 0 0 0 else none) else
(bif Nat.blt pc 4 then
(bif Nat.beq pc 1 then en (.getfield 9) 5 0 1493 0 else none) else
(bif Nat.beq pc 4 then en (.iconst 3) 0 0 0 0 else none))) else
(bif Nat.blt pc 7 then
(bif Nat.blt pc 6 then
(bif Nat.beq pc 5 then en (.dup2) 0 0 0 0 else none) else
(bif Nat.beq pc 6 then en (.iaload) 0 0 0 0 else none)) else
(bif Nat.blt pc 8 then
(bif Nat.beq pc 7 then en (.iconst 1) 0 0 0 0 else none) else
(bif Nat.beq pc 8 then en (.iadd) 0 0 0 0 else none)))) else
(bif Nat.blt pc 12 then
(bif Nat.blt pc 10 then
(bif Nat.beq pc 9 then en (.iastore) 0 0 0 0 else none) else
(bif Nat.blt pc 11 then
(bif Nat.beq pc 10 then en (.aload_n 0) 0 0 0 0 else none) else
(bif Nat.beq pc 11 then en (.iconst 0) 0 0 0 0 else none))) else
(bif Nat.blt pc 16 then
(bif Nat.blt pc 15 then
(bif Nat.beq pc 12 then en (.putfield 138) 5 13 1506 0 else none) else
(bif Nat.beq pc 15 then en (.aload_n 0) 0 0 0 0 else none)) else
(bif Nat.blt pc 19 then
(bif Nat.beq pc 16 then en (.invokevirtual 157) 182 0 1677 5005 else none) else
(bif Nat.beq pc 19 then en (.aload_n 0) 0 0 0 0 else none))))) else
(bif Nat.blt pc 31 then
(bif Nat.blt pc 25 then
(bif Nat.blt pc 23 then
(bif Nat.beq pc 20 then en (.invokevirtual 160) 183 0 1704 5605 else none) else
(bif Nat.blt pc 24 then
(bif Nat.beq pc 23 then en (.iconst 0) 0 0 0 0 else none) else
(bif Nat.beq pc 24 then en (.istore_n 1) 0 0 0 0 else none))) else
(bif Nat.blt pc 27 then
(bif Nat.blt pc 26 then
(bif Nat.beq pc 25 then en (.iload_n 1) 0 0 0 0 else none) else
(bif Nat.beq pc 26 then en (.aload_n 0) 0 0 0 0 else none)) else
(bif Nat.blt pc 30 then
(bif Nat.beq pc 27 then en (.getfield 9) 5 0 1493 0 else none) else
(bif Nat.beq pc 30 then en (.iconst 1) 0 0 0 0 else none)))) else
(bif Nat.blt pc 37 then
(bif Nat.blt pc 35 then
(bif Nat.blt pc 32 then
(bif Nat.beq pc 31 then en (.iaload) 0 0 0 0 else none) else
(bif Nat.beq pc 32 then en (.if_icmp .ge 62) 94 0 0 0 else none)) else
(bif Nat.blt pc 36 then
(bif Nat.beq pc 35 then en (.aload_n 0) 0 0 0 0 else none) else
(bif Nat.beq pc 36 then en (.iload_n 1) 0 0 0 0 else none))) else
(bif Nat.blt pc 41 then
(bif Nat.blt pc 40 then
(bif Nat.beq pc 37 then en (.invokevirtual 163) 185 0 1712 5805 else none) else
(bif Nat.beq pc 40 then en (.istore_n 2) 0 0 0 0 else none)) else
(bif Nat.blt pc 42 then
(bif Nat.beq pc 41 then en (.iload_n 2) 0 0 0 0 else none) else
(bif Nat.beq pc 42 then en (.invokestatic 61) 154 1 1612 0 else none)))))) else
(bif Nat.blt pc 66 then
(bif Nat.blt pc 54 then
(bif Nat.blt pc 50 then
(bif Nat.blt pc 46 then
(bif Nat.beq pc 45 then en (.istore_n 3) 0 0 0 0 else none) else
(bif Nat.blt pc 47 then
(bif Nat.beq pc 46 then en (.aload_n 0) 0 0 0 0 else none) else
(bif Nat.beq pc 47 then en (.getfield 9) 5 0 1493 0 else none))) else
(bif Nat.blt pc 52 then
(bif Nat.blt pc 51 then
(bif Nat.beq pc 50 then en (.iload_n 3) 0 0 0 0 else none) else
(bif Nat.beq pc 51 then en (.iconst 4) 0 0 0 0 else none)) else
(bif Nat.blt pc 53 then
(bif Nat.beq pc 52 then en (.iadd) 0 0 0 0 else none) else
(bif Nat.beq pc 53 then en (.iaload) 0 0 0 0 else none)))) else
(bif Nat.blt pc 59 then
(bif Nat.blt pc 55 then
(bif Nat.beq pc 54 then en (.iconst 1) 0 0 0 0 else none) else
(bif Nat.blt pc 58 then
(bif Nat.beq pc 55 then en (.if_icmp .ne 33) 88 0 0 0 else none) else
(bif Nat.beq pc 58 then en (.aload_n 0) 0 0 0 0 else none))) else
(bif Nat.blt pc 63 then
(bif Nat.blt pc 62 then
(bif Nat.beq pc 59 then en (.getfield 9) 5 0 1493 0 else none) else
(bif Nat.beq pc 62 then en (.iload_n 3) 0 0 0 0 else none)) else
(bif Nat.blt pc 65 then
(bif Nat.beq pc 63 then en (.bipush 7) 0 0 0 0 else none) else
(bif Nat.beq pc 65 then en (.iadd) 0 0 0 0 else none))))) else
(bif Nat.blt pc 77 then
(bif Nat.blt pc 71 then
(bif Nat.blt pc 67 then
(bif Nat.beq pc 66 then en (.iaload) 0 0 0 0 else none) else
(bif Nat.blt pc 70 then
(bif Nat.beq pc 67 then en (.ifCond .ne 21) 88 0 0 0 else none) else
(bif Nat.beq pc 70 then en (.aload_n 0) 0 0 0 0 else none))) else
(bif Nat.blt pc 75 then
(bif Nat.blt pc 72 then
(bif Nat.beq pc 71 then en (.aload_n 0) 0 0 0 0 else none) else
(bif Nat.beq pc 72 then en (.getfield 9) 5 0 1493 0 else none)) else
(bif Nat.blt pc 76 then
(bif Nat.beq pc 75 then en (.iload_n 3) 0 0 0 0 else none) else
(bif Nat.beq pc 76 then en (.iaload) 0 0 0 0 else none)))) else
(bif Nat.blt pc 85 then
(bif Nat.blt pc 83 then
(bif Nat.blt pc 80 then
(bif Nat.beq pc 77 then en (.invokevirtual 166) 179 0 1716 5905 else none) else
(bif Nat.beq pc 80 then en (.ifCond .ne 8) 88 0 0 0 else none)) else
(bif Nat.blt pc 84 then
(bif Nat.beq pc 83 then en (.aload_n 0) 0 0 0 0 else none) else
(bif Nat.beq pc 84 then en (.iload_n 2) 0 0 0 0 else none))) else
(bif Nat.blt pc 91 then
(bif Nat.blt pc 88 then
(bif Nat.beq pc 85 then en (.invokevirtual 169) 184 0 1720 6005 else none) else
(bif Nat.beq pc 88 then en (.iinc 1 1) 0 0 0 0 else none)) else
(bif Nat.blt pc 94 then
(bif Nat.beq pc 91 then en (.goto (-66)) 25 0 0 0 else none) else
(bif Nat.beq pc 94 then en (.return_) 0 0 0 0 else none))))))) else none
/-- SingleTrackLineModel.advanceIt(I)I -/
def mc187 (pc : Nat) : Option En := bif Nat.blt pc 51 then (bif Nat.blt pc 25 then
(bif Nat.blt pc 13 then
(bif Nat.blt pc 3 then
(bif Nat.blt pc 1 then
(bif Nat.beq pc 0 then en (.iload_n 1) 0 0 0 0 else none) else
(bif Nat.blt pc 2 then
(bif Nat.beq pc 1 then en (.i2l) 0 0 0 0 else none) else
(bif Nat.beq pc 2 then en (.lconst 1) 0 0 0 0 else none))) else
(bif Nat.blt pc 9 then
(bif Nat.blt pc 6 then
(bif Nat.beq pc 3 then en (.ldc2_w 172) 60 0 1672 0 else none) else
(bif Nat.beq pc 6 then en (.invokestatic 57) 151 1 1580 0 else none)) else
(bif Nat.blt pc 12 then
(bif Nat.beq pc 9 then en (.ifCond .ne 9) 18 0 0 0 else none) else
(bif Nat.beq pc 12 then en (.aload_n 0) 0 0 0 0 else none)))) else
(bif Nat.blt pc 19 then
(bif Nat.blt pc 17 then
(bif Nat.blt pc 14 then
(bif Nat.beq pc 13 then en (.iconst 1) 0 0 0 0 else none) else
(bif Nat.beq pc 14 then en (.invokevirtual 96) 150 0 1584 3405 else none)) else
(bif Nat.blt pc 18 then
(bif Nat.beq pc 17 then en (.ireturn) 0 0 0 0 else none) else
(bif Nat.beq pc 18 then en (.aload_n 0) 0 0 0 0 else none))) else
(bif Nat.blt pc 23 then
(bif Nat.blt pc 22 then
(bif Nat.beq pc 19 then en (.getfield 9) 5 0 1493 0 else none) else
(bif Nat.beq pc 22 then en (.iconst 4) 0 0 0 0 else none)) else
(bif Nat.blt pc 24 then
(bif Nat.beq pc 23 then en (.iaload) 0 0 0 0 else none) else
(bif Nat.beq pc 24 then en (.istore_n 2) 0 0 0 0 else none))))) else
(bif Nat.blt pc 39 then
(bif Nat.blt pc 29 then
(bif Nat.blt pc 27 then
(bif Nat.blt pc 26 then
(bif Nat.beq pc 25 then en (.iconst 0) 0 0 0 0 else none) else
(bif Nat.beq pc 26 then en (.istore_n 3) 0 0 0 0 else none)) else
(bif Nat.blt pc 28 then
(bif Nat.beq pc 27 then en (.iload_n 3) 0 0 0 0 else none) else
(bif Nat.beq pc 28 then en (.iload_n 1) 0 0 0 0 else none))) else
(bif Nat.blt pc 33 then
(bif Nat.blt pc 32 then
(bif Nat.beq pc 29 then en (.if_icmp .ge 13) 42 0 0 0 else none) else
(bif Nat.beq pc 32 then en (.aload_n 0) 0 0 0 0 else none)) else
(bif Nat.blt pc 36 then
(bif Nat.beq pc 33 then en (.invokevirtual 174) 186 0 1673 4905 else none) else
(bif Nat.beq pc 36 then en (.iinc 3 1) 0 0 0 0 else none)))) else
(bif Nat.blt pc 47 then
(bif Nat.blt pc 43 then
(bif Nat.blt pc 42 then
(bif Nat.beq pc 39 then en (.goto (-12)) 27 0 0 0 else none) else
(bif Nat.beq pc 42 then en (.aload_n 0) 0 0 0 0 else none)) else
(bif Nat.blt pc 46 then
(bif Nat.beq pc 43 then en (.getfield 9) 5 0 1493 0 else none) else
(bif Nat.beq pc 46 then en (.iconst 4) 0 0 0 0 else none))) else
(bif Nat.blt pc 49 then
(bif Nat.blt pc 48 then
(bif Nat.beq pc 47 then en (.iaload) 0 0 0 0 else none) else
(bif Nat.beq pc 48 then en (.iload_n 2) 0 0 0 0 else none)) else
(bif Nat.blt pc 50 then
(bif Nat.beq pc 49 then en (.isub) 0 0 0 0 else none) else
(bif Nat.beq pc 50 then en (.ireturn) 0 0 0 0 else none)))))) else none
/-- SingleTrackLineModel.advance(I)I -/
def mc188 (pc : Nat) : Option En := bif Nat.blt pc 14 then (bif Nat.blt pc 6 then
(bif Nat.blt pc 4 then
(bif Nat.blt pc 1 then
(bif Nat.beq pc 0 then en (.aload_n 0) 0 0 0 0 else none) else
(bif Nat.beq pc 1 then en (.invokevirtual 99) 152 0 1571 3205 else none)) else
(bif Nat.blt pc 5 then
(bif Nat.beq pc 4 then en (.aload_n 0) 0 0 0 0 else none) else
(bif Nat.beq pc 5 then en (.aload_n 0) 0 0 0 0 else none))) else
(bif Nat.blt pc 10 then
(bif Nat.blt pc 7 then
(bif Nat.beq pc 6 then en (.iload_n 1) 0 0 0 0 else none) else
(bif Nat.beq pc 7 then en (.invokevirtual 177) 187 0 1668 4805 else none)) else
(bif Nat.blt pc 13 then
(bif Nat.beq pc 10 then en (.invokevirtual 105) 153 0 1588 3505 else none) else
(bif Nat.beq pc 13 then en (.ireturn) 0 0 0 0 else none)))) else none
/-- SingleTrackLineModel.total(I)I -/
def mc189 (pc : Nat) : Option En := bif Nat.blt pc 12 then (bif Nat.blt pc 6 then
(bif Nat.blt pc 2 then
(bif Nat.blt pc 1 then
(bif Nat.beq pc 0 then en (.aload_n 0) 0 0 0 0 else none) else
(bif Nat.beq pc 1 then en (.iconst 0) 0 0 0 0 else none)) else
(bif Nat.blt pc 5 then
(bif Nat.beq pc 2 then en (.putfield 51) 5 9 1502 0 else none) else
(bif Nat.beq pc 5 then en (.aload_n 0) 0 0 0 0 else none))) else
(bif Nat.blt pc 10 then
(bif Nat.blt pc 9 then
(bif Nat.beq pc 6 then en (.getfield 9) 5 0 1493 0 else none) else
(bif Nat.beq pc 9 then en (.iload_n 1) 0 0 0 0 else none)) else
(bif Nat.blt pc 11 then
(bif Nat.beq pc 10 then en (.iaload) 0 0 0 0 else none) else
(bif Nat.beq pc 11 then en (.ireturn) 0 0 0 0 else none)))) else none
/-- SingleTrackLineModel.stationCount()I -/
def mc190 (pc : Nat) : Option En := bif Nat.blt pc 6 then (bif Nat.blt pc 2 then
(bif Nat.blt pc 1 then
(bif Nat.beq pc 0 then en (.aload_n 0) 0 0 0 0 else none) else
(bif Nat.beq pc 1 then en (.iconst 0) 0 0 0 0 else none)) else
(bif Nat.blt pc 5 then
(bif Nat.beq pc 2 then en (.invokevirtual 180) 189 0 1728 6105 else none) else
(bif Nat.beq pc 5 then en (.ireturn) 0 0 0 0 else none))) else none
/-- SingleTrackLineModel.tracks(I)I -/
def mc191 (pc : Nat) : Option En := bif Nat.blt pc 31 then (bif Nat.blt pc 17 then
(bif Nat.blt pc 6 then
(bif Nat.blt pc 2 then
(bif Nat.blt pc 1 then
(bif Nat.beq pc 0 then en (.aload_n 0) 0 0 0 0 else none) else
(bif Nat.beq pc 1 then en (.iconst 0) 0 0 0 0 else none)) else
(bif Nat.blt pc 5 then
(bif Nat.beq pc 2 then en (.putfield 51) 5 9 1502 0 else none) else
(bif Nat.beq pc 5 then en (.aload_n 0) 0 0 0 0 else none))) else
(bif Nat.blt pc 10 then
(bif Nat.blt pc 7 then
(bif Nat.beq pc 6 then en (.iload_n 1) 0 0 0 0 else none) else
(bif Nat.beq pc 7 then en (.invokevirtual 108) 155 0 1600 3705 else none)) else
(bif Nat.blt pc 13 then
(bif Nat.beq pc 10 then en (.ifCond .eq 15) 25 0 0 0 else none) else
(bif Nat.blt pc 14 then
(bif Nat.beq pc 13 then en (.aload_n 0) 0 0 0 0 else none) else
(bif Nat.beq pc 14 then en (.getfield 9) 5 0 1493 0 else none))))) else
(bif Nat.blt pc 22 then
(bif Nat.blt pc 20 then
(bif Nat.blt pc 19 then
(bif Nat.beq pc 17 then en (.bipush 9) 0 0 0 0 else none) else
(bif Nat.beq pc 19 then en (.iload_n 1) 0 0 0 0 else none)) else
(bif Nat.blt pc 21 then
(bif Nat.beq pc 20 then en (.iadd) 0 0 0 0 else none) else
(bif Nat.beq pc 21 then en (.iaload) 0 0 0 0 else none))) else
(bif Nat.blt pc 26 then
(bif Nat.blt pc 25 then
(bif Nat.beq pc 22 then en (.goto 8) 30 0 0 0 else none) else
(bif Nat.beq pc 25 then en (.aload_n 0) 0 0 0 0 else none)) else
(bif Nat.blt pc 27 then
(bif Nat.beq pc 26 then en (.iconst 1) 0 0 0 0 else none) else
(bif Nat.blt pc 30 then
(bif Nat.beq pc 27 then en (.invokevirtual 96) 150 0 1584 3405 else none) else
(bif Nat.beq pc 30 then en (.ireturn) 0 0 0 0 else none)))))) else none
/-- SingleTrackLineModel.freeTracks(I)I -/
def mc192 (pc : Nat) : Option En := bif Nat.blt pc 27 then (bif Nat.blt pc 13 then
(bif Nat.blt pc 5 then
(bif Nat.blt pc 1 then
(bif Nat.beq pc 0 then en (.aload_n 0) 0 0 0 0 else none) else
(bif Nat.blt pc 2 then
(bif Nat.beq pc 1 then en (.iconst 0) 0 0 0 0 else none) else
(bif Nat.beq pc 2 then en (.putfield 51) 5 9 1502 0 else none))) else
(bif Nat.blt pc 7 then
(bif Nat.blt pc 6 then
(bif Nat.beq pc 5 then en (.aload_n 0) 0 0 0 0 else none) else
(bif Nat.beq pc 6 then en (.iload_n 1) 0 0 0 0 else none)) else
(bif Nat.blt pc 10 then
(bif Nat.beq pc 7 then en (.invokevirtual 108) 155 0 1600 3705 else none) else
(bif Nat.beq pc 10 then en (.ifCond .eq 11) 21 0 0 0 else none)))) else
(bif Nat.blt pc 21 then
(bif Nat.blt pc 15 then
(bif Nat.blt pc 14 then
(bif Nat.beq pc 13 then en (.aload_n 0) 0 0 0 0 else none) else
(bif Nat.beq pc 14 then en (.iload_n 1) 0 0 0 0 else none)) else
(bif Nat.blt pc 18 then
(bif Nat.beq pc 15 then en (.invokevirtual 154) 163 0 1708 5705 else none) else
(bif Nat.beq pc 18 then en (.goto 8) 26 0 0 0 else none))) else
(bif Nat.blt pc 23 then
(bif Nat.blt pc 22 then
(bif Nat.beq pc 21 then en (.aload_n 0) 0 0 0 0 else none) else
(bif Nat.beq pc 22 then en (.iconst 1) 0 0 0 0 else none)) else
(bif Nat.blt pc 26 then
(bif Nat.beq pc 23 then en (.invokevirtual 96) 150 0 1584 3405 else none) else
(bif Nat.beq pc 26 then en (.ireturn) 0 0 0 0 else none))))) else none
/-- SingleTrackLineModel.trainsAt(I)I -/
def mc193 (pc : Nat) : Option En := bif Nat.blt pc 27 then (bif Nat.blt pc 13 then
(bif Nat.blt pc 5 then
(bif Nat.blt pc 1 then
(bif Nat.beq pc 0 then en (.aload_n 0) 0 0 0 0 else none) else
(bif Nat.blt pc 2 then
(bif Nat.beq pc 1 then en (.iconst 0) 0 0 0 0 else none) else
(bif Nat.beq pc 2 then en (.putfield 51) 5 9 1502 0 else none))) else
(bif Nat.blt pc 7 then
(bif Nat.blt pc 6 then
(bif Nat.beq pc 5 then en (.aload_n 0) 0 0 0 0 else none) else
(bif Nat.beq pc 6 then en (.iload_n 1) 0 0 0 0 else none)) else
(bif Nat.blt pc 10 then
(bif Nat.beq pc 7 then en (.invokevirtual 108) 155 0 1600 3705 else none) else
(bif Nat.beq pc 10 then en (.ifCond .eq 11) 21 0 0 0 else none)))) else
(bif Nat.blt pc 21 then
(bif Nat.blt pc 15 then
(bif Nat.blt pc 14 then
(bif Nat.beq pc 13 then en (.aload_n 0) 0 0 0 0 else none) else
(bif Nat.beq pc 14 then en (.iload_n 1) 0 0 0 0 else none)) else
(bif Nat.blt pc 18 then
(bif Nat.beq pc 15 then en (.invokevirtual 68) 161 0 1608 3905 else none) else
(bif Nat.beq pc 18 then en (.goto 8) 26 0 0 0 else none))) else
(bif Nat.blt pc 23 then
(bif Nat.blt pc 22 then
(bif Nat.beq pc 21 then en (.aload_n 0) 0 0 0 0 else none) else
(bif Nat.beq pc 22 then en (.iconst 1) 0 0 0 0 else none)) else
(bif Nat.blt pc 26 then
(bif Nat.beq pc 23 then en (.invokevirtual 96) 150 0 1584 3405 else none) else
(bif Nat.beq pc 26 then en (.ireturn) 0 0 0 0 else none))))) else none
/-- SingleTrackLineModel.runningTime(I)I -/
def mc194 (pc : Nat) : Option En := bif Nat.blt pc 31 then (bif Nat.blt pc 17 then
(bif Nat.blt pc 6 then
(bif Nat.blt pc 2 then
(bif Nat.blt pc 1 then
(bif Nat.beq pc 0 then en (.aload_n 0) 0 0 0 0 else none) else
(bif Nat.beq pc 1 then en (.iconst 0) 0 0 0 0 else none)) else
(bif Nat.blt pc 5 then
(bif Nat.beq pc 2 then en (.putfield 51) 5 9 1502 0 else none) else
(bif Nat.beq pc 5 then en (.aload_n 0) 0 0 0 0 else none))) else
(bif Nat.blt pc 10 then
(bif Nat.blt pc 7 then
(bif Nat.beq pc 6 then en (.iload_n 1) 0 0 0 0 else none) else
(bif Nat.beq pc 7 then en (.invokevirtual 183) 156 0 1748 6205 else none)) else
(bif Nat.blt pc 13 then
(bif Nat.beq pc 10 then en (.ifCond .eq 15) 25 0 0 0 else none) else
(bif Nat.blt pc 14 then
(bif Nat.beq pc 13 then en (.aload_n 0) 0 0 0 0 else none) else
(bif Nat.beq pc 14 then en (.getfield 9) 5 0 1493 0 else none))))) else
(bif Nat.blt pc 22 then
(bif Nat.blt pc 20 then
(bif Nat.blt pc 19 then
(bif Nat.beq pc 17 then en (.bipush 16) 0 0 0 0 else none) else
(bif Nat.beq pc 19 then en (.iload_n 1) 0 0 0 0 else none)) else
(bif Nat.blt pc 21 then
(bif Nat.beq pc 20 then en (.iadd) 0 0 0 0 else none) else
(bif Nat.beq pc 21 then en (.iaload) 0 0 0 0 else none))) else
(bif Nat.blt pc 26 then
(bif Nat.blt pc 25 then
(bif Nat.beq pc 22 then en (.goto 8) 30 0 0 0 else none) else
(bif Nat.beq pc 25 then en (.aload_n 0) 0 0 0 0 else none)) else
(bif Nat.blt pc 27 then
(bif Nat.beq pc 26 then en (.iconst 1) 0 0 0 0 else none) else
(bif Nat.blt pc 30 then
(bif Nat.beq pc 27 then en (.invokevirtual 96) 150 0 1584 3405 else none) else
(bif Nat.beq pc 30 then en (.ireturn) 0 0 0 0 else none)))))) else none
/-- SingleTrackLineModel.isTokenFree(I)Z -/
def mc195 (pc : Nat) : Option En := bif Nat.blt pc 36 then (bif Nat.blt pc 19 then
(bif Nat.blt pc 7 then
(bif Nat.blt pc 2 then
(bif Nat.blt pc 1 then
(bif Nat.beq pc 0 then en (.aload_n 0) 0 0 0 0 else none) else
(bif Nat.beq pc 1 then en (.iconst 0) 0 0 0 0 else none)) else
(bif Nat.blt pc 5 then
(bif Nat.beq pc 2 then en (.putfield 51) 5 9 1502 0 else none) else
(bif Nat.blt pc 6 then
(bif Nat.beq pc 5 then en (.aload_n 0) 0 0 0 0 else none) else
(bif Nat.beq pc 6 then en (.iload_n 1) 0 0 0 0 else none)))) else
(bif Nat.blt pc 14 then
(bif Nat.blt pc 10 then
(bif Nat.beq pc 7 then en (.invokevirtual 183) 156 0 1748 6205 else none) else
(bif Nat.blt pc 13 then
(bif Nat.beq pc 10 then en (.ifCond .ne 11) 21 0 0 0 else none) else
(bif Nat.beq pc 13 then en (.aload_n 0) 0 0 0 0 else none))) else
(bif Nat.blt pc 15 then
(bif Nat.beq pc 14 then en (.iconst 1) 0 0 0 0 else none) else
(bif Nat.blt pc 18 then
(bif Nat.beq pc 15 then en (.invokevirtual 96) 150 0 1584 3405 else none) else
(bif Nat.beq pc 18 then en (.pop) 0 0 0 0 else none))))) else
(bif Nat.blt pc 26 then
(bif Nat.blt pc 21 then
(bif Nat.blt pc 20 then
(bif Nat.beq pc 19 then en (.iconst 0) 0 0 0 0 else none) else
(bif Nat.beq pc 20 then en (.ireturn) 0 0 0 0 else none)) else
(bif Nat.blt pc 22 then
(bif Nat.beq pc 21 then en (.aload_n 0) 0 0 0 0 else none) else
(bif Nat.blt pc 23 then
(bif Nat.beq pc 22 then en (.iload_n 1) 0 0 0 0 else none) else
(bif Nat.beq pc 23 then en (.invokevirtual 144) 160 0 1681 5105 else none)))) else
(bif Nat.blt pc 31 then
(bif Nat.blt pc 27 then
(bif Nat.beq pc 26 then en (.iconst (-1)) 0 0 0 0 else none) else
(bif Nat.blt pc 30 then
(bif Nat.beq pc 27 then en (.if_icmp .ne 7) 34 0 0 0 else none) else
(bif Nat.beq pc 30 then en (.iconst 1) 0 0 0 0 else none))) else
(bif Nat.blt pc 34 then
(bif Nat.beq pc 31 then en (.goto 4) 35 0 0 0 else none) else
(bif Nat.blt pc 35 then
(bif Nat.beq pc 34 then en (.iconst 0) 0 0 0 0 else none) else
(bif Nat.beq pc 35 then en (.ireturn) 0 0 0 0 else none)))))) else none
/-- SingleTrackLineModel.tokenHolder(I)I -/
def mc196 (pc : Nat) : Option En := bif Nat.blt pc 50 then (bif Nat.blt pc 24 then
(bif Nat.blt pc 13 then
(bif Nat.blt pc 5 then
(bif Nat.blt pc 1 then
(bif Nat.beq pc 0 then en (.aload_n 0) 0 0 0 0 else none) else
(bif Nat.blt pc 2 then
(bif Nat.beq pc 1 then en (.iconst 0) 0 0 0 0 else none) else
(bif Nat.beq pc 2 then en (.putfield 51) 5 9 1502 0 else none))) else
(bif Nat.blt pc 7 then
(bif Nat.blt pc 6 then
(bif Nat.beq pc 5 then en (.aload_n 0) 0 0 0 0 else none) else
(bif Nat.beq pc 6 then en (.iload_n 1) 0 0 0 0 else none)) else
(bif Nat.blt pc 10 then
(bif Nat.beq pc 7 then en (.invokevirtual 183) 156 0 1748 6205 else none) else
(bif Nat.beq pc 10 then en (.ifCond .ne 9) 19 0 0 0 else none)))) else
(bif Nat.blt pc 18 then
(bif Nat.blt pc 14 then
(bif Nat.beq pc 13 then en (.aload_n 0) 0 0 0 0 else none) else
(bif Nat.blt pc 15 then
(bif Nat.beq pc 14 then en (.iconst 1) 0 0 0 0 else none) else
(bif Nat.beq pc 15 then en (.invokevirtual 96) 150 0 1584 3405 else none))) else
(bif Nat.blt pc 20 then
(bif Nat.blt pc 19 then
(bif Nat.beq pc 18 then en (.ireturn) 0 0 0 0 else none) else
(bif Nat.beq pc 19 then en (.aload_n 0) 0 0 0 0 else none)) else
(bif Nat.blt pc 21 then
(bif Nat.beq pc 20 then en (.iload_n 1) 0 0 0 0 else none) else
(bif Nat.beq pc 21 then en (.invokevirtual 144) 160 0 1681 5105 else none))))) else
(bif Nat.blt pc 37 then
(bif Nat.blt pc 29 then
(bif Nat.blt pc 25 then
(bif Nat.beq pc 24 then en (.iconst (-1)) 0 0 0 0 else none) else
(bif Nat.blt pc 28 then
(bif Nat.beq pc 25 then en (.if_icmp .ne 11) 36 0 0 0 else none) else
(bif Nat.beq pc 28 then en (.aload_n 0) 0 0 0 0 else none))) else
(bif Nat.blt pc 33 then
(bif Nat.blt pc 30 then
(bif Nat.beq pc 29 then en (.iconst 2) 0 0 0 0 else none) else
(bif Nat.beq pc 30 then en (.invokevirtual 96) 150 0 1584 3405 else none)) else
(bif Nat.blt pc 36 then
(bif Nat.beq pc 33 then en (.goto 16) 49 0 0 0 else none) else
(bif Nat.beq pc 36 then en (.aload_n 0) 0 0 0 0 else none)))) else
(bif Nat.blt pc 42 then
(bif Nat.blt pc 40 then
(bif Nat.beq pc 37 then en (.getfield 9) 5 0 1493 0 else none) else
(bif Nat.blt pc 41 then
(bif Nat.beq pc 40 then en (.aload_n 0) 0 0 0 0 else none) else
(bif Nat.beq pc 41 then en (.iload_n 1) 0 0 0 0 else none))) else
(bif Nat.blt pc 48 then
(bif Nat.blt pc 45 then
(bif Nat.beq pc 42 then en (.invokevirtual 144) 160 0 1681 5105 else none) else
(bif Nat.beq pc 45 then en (.invokestatic 61) 154 1 1612 0 else none)) else
(bif Nat.blt pc 49 then
(bif Nat.beq pc 48 then en (.iaload) 0 0 0 0 else none) else
(bif Nat.beq pc 49 then en (.ireturn) 0 0 0 0 else none)))))) else none
/-- SingleTrackLineModel.distance(II)I -/
def mc197 (pc : Nat) : Option En := bif Nat.blt pc 36 then (bif Nat.blt pc 18 then
(bif Nat.blt pc 7 then
(bif Nat.blt pc 2 then
(bif Nat.blt pc 1 then
(bif Nat.beq pc 0 then en (.aload_n 0) 0 0 0 0 else none) else
(bif Nat.beq pc 1 then en (.iconst 0) 0 0 0 0 else none)) else
(bif Nat.blt pc 5 then
(bif Nat.beq pc 2 then en (.putfield 51) 5 9 1502 0 else none) else
(bif Nat.blt pc 6 then
(bif Nat.beq pc 5 then en (.aload_n 0) 0 0 0 0 else none) else
(bif Nat.beq pc 6 then en (.iload_n 1) 0 0 0 0 else none)))) else
(bif Nat.blt pc 13 then
(bif Nat.blt pc 10 then
(bif Nat.beq pc 7 then en (.invokevirtual 108) 155 0 1600 3705 else none) else
(bif Nat.beq pc 10 then en (.ifCond .eq 20) 30 0 0 0 else none)) else
(bif Nat.blt pc 14 then
(bif Nat.beq pc 13 then en (.aload_n 0) 0 0 0 0 else none) else
(bif Nat.blt pc 15 then
(bif Nat.beq pc 14 then en (.iload_n 2) 0 0 0 0 else none) else
(bif Nat.beq pc 15 then en (.invokevirtual 108) 155 0 1600 3705 else none))))) else
(bif Nat.blt pc 27 then
(bif Nat.blt pc 22 then
(bif Nat.blt pc 21 then
(bif Nat.beq pc 18 then en (.ifCond .eq 12) 30 0 0 0 else none) else
(bif Nat.beq pc 21 then en (.aload_n 0) 0 0 0 0 else none)) else
(bif Nat.blt pc 23 then
(bif Nat.beq pc 22 then en (.iload_n 1) 0 0 0 0 else none) else
(bif Nat.blt pc 24 then
(bif Nat.beq pc 23 then en (.iload_n 2) 0 0 0 0 else none) else
(bif Nat.beq pc 24 then en (.invokevirtual 86) 164 0 1693 5405 else none)))) else
(bif Nat.blt pc 31 then
(bif Nat.blt pc 30 then
(bif Nat.beq pc 27 then en (.goto 8) 35 0 0 0 else none) else
(bif Nat.beq pc 30 then en (.aload_n 0) 0 0 0 0 else none)) else
(bif Nat.blt pc 32 then
(bif Nat.beq pc 31 then en (.iconst 1) 0 0 0 0 else none) else
(bif Nat.blt pc 35 then
(bif Nat.beq pc 32 then en (.invokevirtual 96) 150 0 1584 3405 else none) else
(bif Nat.beq pc 35 then en (.ireturn) 0 0 0 0 else none)))))) else none
/-- SingleTrackLineModel.distanceByPositions(II)I -/
def mc198 (pc : Nat) : Option En := bif Nat.blt pc 7 then (bif Nat.blt pc 2 then
(bif Nat.blt pc 1 then
(bif Nat.beq pc 0 then en (.aload_n 0) 0 0 0 0 else none) else
(bif Nat.beq pc 1 then en (.iload_n 1) 0 0 0 0 else none)) else
(bif Nat.blt pc 3 then
(bif Nat.beq pc 2 then en (.iload_n 2) 0 0 0 0 else none) else
(bif Nat.blt pc 6 then
(bif Nat.beq pc 3 then en (.invokevirtual 186) 197 0 1768 176205 else none) else
(bif Nat.beq pc 6 then en (.ireturn) 0 0 0 0 else none)))) else none
/-- SingleTrackLineModel.trainCount()I -/
def mc199 (pc : Nat) : Option En := bif Nat.blt pc 6 then (bif Nat.blt pc 2 then
(bif Nat.blt pc 1 then
(bif Nat.beq pc 0 then en (.aload_n 0) 0 0 0 0 else none) else
(bif Nat.beq pc 1 then en (.iconst 1) 0 0 0 0 else none)) else
(bif Nat.blt pc 5 then
(bif Nat.beq pc 2 then en (.invokevirtual 180) 189 0 1728 6105 else none) else
(bif Nat.beq pc 5 then en (.ireturn) 0 0 0 0 else none))) else none
/-- SingleTrackLineModel.exists(I)Z -/
def mc200 (pc : Nat) : Option En := bif Nat.blt pc 20 then (bif Nat.blt pc 10 then
(bif Nat.blt pc 5 then
(bif Nat.blt pc 1 then
(bif Nat.beq pc 0 then en (.aload_n 0) 0 0 0 0 else none) else
(bif Nat.blt pc 2 then
(bif Nat.beq pc 1 then en (.iconst 0) 0 0 0 0 else none) else
(bif Nat.beq pc 2 then en (.putfield 51) 5 9 1502 0 else none))) else
(bif Nat.blt pc 6 then
(bif Nat.beq pc 5 then en (.aload_n 0) 0 0 0 0 else none) else
(bif Nat.blt pc 7 then
(bif Nat.beq pc 6 then en (.iload_n 1) 0 0 0 0 else none) else
(bif Nat.beq pc 7 then en (.invokevirtual 121) 157 0 1640 4405 else none)))) else
(bif Nat.blt pc 15 then
(bif Nat.blt pc 11 then
(bif Nat.beq pc 10 then en (.iconst (-1)) 0 0 0 0 else none) else
(bif Nat.blt pc 14 then
(bif Nat.beq pc 11 then en (.if_icmp .eq 7) 18 0 0 0 else none) else
(bif Nat.beq pc 14 then en (.iconst 1) 0 0 0 0 else none))) else
(bif Nat.blt pc 18 then
(bif Nat.beq pc 15 then en (.goto 4) 19 0 0 0 else none) else
(bif Nat.blt pc 19 then
(bif Nat.beq pc 18 then en (.iconst 0) 0 0 0 0 else none) else
(bif Nat.beq pc 19 then en (.ireturn) 0 0 0 0 else none))))) else none
/-- SingleTrackLineModel.ofTrain(II)I -/
def mc201 (pc : Nat) : Option En := bif Nat.blt pc 38 then (bif Nat.blt pc 19 then
(bif Nat.blt pc 7 then
(bif Nat.blt pc 2 then
(bif Nat.blt pc 1 then
(bif Nat.beq pc 0 then en (.aload_n 0) 0 0 0 0 else none) else
(bif Nat.beq pc 1 then en (.iconst 0) 0 0 0 0 else none)) else
(bif Nat.blt pc 5 then
(bif Nat.beq pc 2 then en (.putfield 51) 5 9 1502 0 else none) else
(bif Nat.blt pc 6 then
(bif Nat.beq pc 5 then en (.aload_n 0) 0 0 0 0 else none) else
(bif Nat.beq pc 6 then en (.iload_n 1) 0 0 0 0 else none)))) else
(bif Nat.blt pc 14 then
(bif Nat.blt pc 10 then
(bif Nat.beq pc 7 then en (.invokevirtual 121) 157 0 1640 4405 else none) else
(bif Nat.blt pc 11 then
(bif Nat.beq pc 10 then en (.iconst (-1)) 0 0 0 0 else none) else
(bif Nat.beq pc 11 then en (.if_icmp .ne 11) 22 0 0 0 else none))) else
(bif Nat.blt pc 15 then
(bif Nat.beq pc 14 then en (.aload_n 0) 0 0 0 0 else none) else
(bif Nat.blt pc 16 then
(bif Nat.beq pc 15 then en (.iconst 1) 0 0 0 0 else none) else
(bif Nat.beq pc 16 then en (.invokevirtual 96) 150 0 1584 3405 else none))))) else
(bif Nat.blt pc 28 then
(bif Nat.blt pc 23 then
(bif Nat.blt pc 22 then
(bif Nat.beq pc 19 then en (.goto 18) 37 0 0 0 else none) else
(bif Nat.beq pc 22 then en (.aload_n 0) 0 0 0 0 else none)) else
(bif Nat.blt pc 26 then
(bif Nat.beq pc 23 then en (.getfield 9) 5 0 1493 0 else none) else
(bif Nat.blt pc 27 then
(bif Nat.beq pc 26 then en (.aload_n 0) 0 0 0 0 else none) else
(bif Nat.beq pc 27 then en (.iload_n 1) 0 0 0 0 else none)))) else
(bif Nat.blt pc 35 then
(bif Nat.blt pc 31 then
(bif Nat.beq pc 28 then en (.invokevirtual 121) 157 0 1640 4405 else none) else
(bif Nat.blt pc 34 then
(bif Nat.beq pc 31 then en (.invokestatic 61) 154 1 1612 0 else none) else
(bif Nat.beq pc 34 then en (.iload_n 2) 0 0 0 0 else none))) else
(bif Nat.blt pc 36 then
(bif Nat.beq pc 35 then en (.iadd) 0 0 0 0 else none) else
(bif Nat.blt pc 37 then
(bif Nat.beq pc 36 then en (.iaload) 0 0 0 0 else none) else
(bif Nat.beq pc 37 then en (.ireturn) 0 0 0 0 else none)))))) else none
/-- SingleTrackLineModel.isExpected(I)Z -/
def mc202 (pc : Nat) : Option En := bif Nat.blt pc 15 then (bif Nat.blt pc 6 then
(bif Nat.blt pc 2 then
(bif Nat.blt pc 1 then
(bif Nat.beq pc 0 then en (.aload_n 0) 0 0 0 0 else none) else
(bif Nat.beq pc 1 then en (.iload_n 1) 0 0 0 0 else none)) else
(bif Nat.blt pc 3 then
(bif Nat.beq pc 2 then en (.iconst 4) 0 0 0 0 else none) else
(bif Nat.beq pc 3 then en (.invokevirtual 189) 201 0 1781 6305 else none))) else
(bif Nat.blt pc 10 then
(bif Nat.blt pc 9 then
(bif Nat.beq pc 6 then en (.ifCond .ne 7) 13 0 0 0 else none) else
(bif Nat.beq pc 9 then en (.iconst 1) 0 0 0 0 else none)) else
(bif Nat.blt pc 13 then
(bif Nat.beq pc 10 then en (.goto 4) 14 0 0 0 else none) else
(bif Nat.blt pc 14 then
(bif Nat.beq pc 13 then en (.iconst 0) 0 0 0 0 else none) else
(bif Nat.beq pc 14 then en (.ireturn) 0 0 0 0 else none))))) else none
/-- SingleTrackLineModel.isHeld(I)Z -/
def mc203 (pc : Nat) : Option En := bif Nat.blt pc 17 then (bif Nat.blt pc 8 then
(bif Nat.blt pc 2 then
(bif Nat.blt pc 1 then
(bif Nat.beq pc 0 then en (.aload_n 0) 0 0 0 0 else none) else
(bif Nat.beq pc 1 then en (.iload_n 1) 0 0 0 0 else none)) else
(bif Nat.blt pc 4 then
(bif Nat.beq pc 2 then en (.bipush 7) 0 0 0 0 else none) else
(bif Nat.blt pc 7 then
(bif Nat.beq pc 4 then en (.invokevirtual 189) 201 0 1781 6305 else none) else
(bif Nat.beq pc 7 then en (.iconst 1) 0 0 0 0 else none)))) else
(bif Nat.blt pc 12 then
(bif Nat.blt pc 11 then
(bif Nat.beq pc 8 then en (.if_icmp .ne 7) 15 0 0 0 else none) else
(bif Nat.beq pc 11 then en (.iconst 1) 0 0 0 0 else none)) else
(bif Nat.blt pc 15 then
(bif Nat.beq pc 12 then en (.goto 4) 16 0 0 0 else none) else
(bif Nat.blt pc 16 then
(bif Nat.beq pc 15 then en (.iconst 0) 0 0 0 0 else none) else
(bif Nat.beq pc 16 then en (.ireturn) 0 0 0 0 else none))))) else none
/-- SingleTrackLineModel.ofTrainWhere(III)I -/
def mc204 (pc : Nat) : Option En := bif Nat.blt pc 47 then (bif Nat.blt pc 23 then
(bif Nat.blt pc 9 then
(bif Nat.blt pc 3 then
(bif Nat.blt pc 1 then
(bif Nat.beq pc 0 then en (.aload_n 0) 0 0 0 0 else none) else
(bif Nat.blt pc 2 then
(bif Nat.beq pc 1 then en (.iload_n 1) 0 0 0 0 else none) else
(bif Nat.beq pc 2 then en (.iconst 4) 0 0 0 0 else none))) else
(bif Nat.blt pc 6 then
(bif Nat.beq pc 3 then en (.invokevirtual 189) 201 0 1781 6305 else none) else
(bif Nat.blt pc 8 then
(bif Nat.beq pc 6 then en (.istore 4) 0 0 0 0 else none) else
(bif Nat.beq pc 8 then en (.aload_n 0) 0 0 0 0 else none)))) else
(bif Nat.blt pc 16 then
(bif Nat.blt pc 12 then
(bif Nat.beq pc 9 then en (.getfield 51) 5 9 1502 0 else none) else
(bif Nat.blt pc 15 then
(bif Nat.beq pc 12 then en (.ifCond .le 5) 17 0 0 0 else none) else
(bif Nat.beq pc 15 then en (.iconst (-1)) 0 0 0 0 else none))) else
(bif Nat.blt pc 19 then
(bif Nat.blt pc 17 then
(bif Nat.beq pc 16 then en (.ireturn) 0 0 0 0 else none) else
(bif Nat.beq pc 17 then en (.iload 4) 0 0 0 0 else none)) else
(bif Nat.blt pc 20 then
(bif Nat.beq pc 19 then en (.iload_n 2) 0 0 0 0 else none) else
(bif Nat.beq pc 20 then en (.if_icmp .ne 21) 41 0 0 0 else none))))) else
(bif Nat.blt pc 36 then
(bif Nat.blt pc 28 then
(bif Nat.blt pc 24 then
(bif Nat.beq pc 23 then en (.aload_n 0) 0 0 0 0 else none) else
(bif Nat.blt pc 27 then
(bif Nat.beq pc 24 then en (.getfield 9) 5 0 1493 0 else none) else
(bif Nat.beq pc 27 then en (.aload_n 0) 0 0 0 0 else none))) else
(bif Nat.blt pc 32 then
(bif Nat.blt pc 29 then
(bif Nat.beq pc 28 then en (.iload_n 1) 0 0 0 0 else none) else
(bif Nat.beq pc 29 then en (.invokevirtual 121) 157 0 1640 4405 else none)) else
(bif Nat.blt pc 35 then
(bif Nat.beq pc 32 then en (.invokestatic 61) 154 1 1612 0 else none) else
(bif Nat.beq pc 35 then en (.iload_n 3) 0 0 0 0 else none)))) else
(bif Nat.blt pc 41 then
(bif Nat.blt pc 37 then
(bif Nat.beq pc 36 then en (.iadd) 0 0 0 0 else none) else
(bif Nat.blt pc 38 then
(bif Nat.beq pc 37 then en (.iaload) 0 0 0 0 else none) else
(bif Nat.beq pc 38 then en (.goto 8) 46 0 0 0 else none))) else
(bif Nat.blt pc 43 then
(bif Nat.blt pc 42 then
(bif Nat.beq pc 41 then en (.aload_n 0) 0 0 0 0 else none) else
(bif Nat.beq pc 42 then en (.iconst 2) 0 0 0 0 else none)) else
(bif Nat.blt pc 46 then
(bif Nat.beq pc 43 then en (.invokevirtual 96) 150 0 1584 3405 else none) else
(bif Nat.beq pc 46 then en (.ireturn) 0 0 0 0 else none)))))) else none
/-- SingleTrackLineModel.stationOf(I)I -/
def mc205 (pc : Nat) : Option En := bif Nat.blt pc 8 then (bif Nat.blt pc 3 then
(bif Nat.blt pc 1 then
(bif Nat.beq pc 0 then en (.aload_n 0) 0 0 0 0 else none) else
(bif Nat.blt pc 2 then
(bif Nat.beq pc 1 then en (.iload_n 1) 0 0 0 0 else none) else
(bif Nat.beq pc 2 then en (.iconst 1) 0 0 0 0 else none))) else
(bif Nat.blt pc 4 then
(bif Nat.beq pc 3 then en (.iconst 5) 0 0 0 0 else none) else
(bif Nat.blt pc 7 then
(bif Nat.beq pc 4 then en (.invokevirtual 192) 204 0 1793 6405 else none) else
(bif Nat.beq pc 7 then en (.ireturn) 0 0 0 0 else none)))) else none
/-- SingleTrackLineModel.sectionOf(I)I -/
def mc206 (pc : Nat) : Option En := bif Nat.blt pc 8 then (bif Nat.blt pc 3 then
(bif Nat.blt pc 1 then
(bif Nat.beq pc 0 then en (.aload_n 0) 0 0 0 0 else none) else
(bif Nat.blt pc 2 then
(bif Nat.beq pc 1 then en (.iload_n 1) 0 0 0 0 else none) else
(bif Nat.beq pc 2 then en (.iconst 2) 0 0 0 0 else none))) else
(bif Nat.blt pc 4 then
(bif Nat.beq pc 3 then en (.iconst 5) 0 0 0 0 else none) else
(bif Nat.blt pc 7 then
(bif Nat.beq pc 4 then en (.invokevirtual 192) 204 0 1793 6405 else none) else
(bif Nat.beq pc 7 then en (.ireturn) 0 0 0 0 else none)))) else none
/-- SingleTrackLineModel.remainingTime(I)I -/
def mc207 (pc : Nat) : Option En := bif Nat.blt pc 9 then (bif Nat.blt pc 3 then
(bif Nat.blt pc 1 then
(bif Nat.beq pc 0 then en (.aload_n 0) 0 0 0 0 else none) else
(bif Nat.blt pc 2 then
(bif Nat.beq pc 1 then en (.iload_n 1) 0 0 0 0 else none) else
(bif Nat.beq pc 2 then en (.iconst 2) 0 0 0 0 else none))) else
(bif Nat.blt pc 5 then
(bif Nat.beq pc 3 then en (.bipush 6) 0 0 0 0 else none) else
(bif Nat.blt pc 8 then
(bif Nat.beq pc 5 then en (.invokevirtual 192) 204 0 1793 6405 else none) else
(bif Nat.beq pc 8 then en (.ireturn) 0 0 0 0 else none)))) else none
/-- SingleTrackLineModel.waitedMinutes(I)I -/
def mc208 (pc : Nat) : Option En := bif Nat.blt pc 8 then (bif Nat.blt pc 2 then
(bif Nat.blt pc 1 then
(bif Nat.beq pc 0 then en (.aload_n 0) 0 0 0 0 else none) else
(bif Nat.beq pc 1 then en (.iload_n 1) 0 0 0 0 else none)) else
(bif Nat.blt pc 4 then
(bif Nat.beq pc 2 then en (.bipush 8) 0 0 0 0 else none) else
(bif Nat.blt pc 7 then
(bif Nat.beq pc 4 then en (.invokevirtual 189) 201 0 1781 6305 else none) else
(bif Nat.beq pc 7 then en (.ireturn) 0 0 0 0 else none)))) else none
/-- SingleTrackLineModel.plannedArrival(I)I -/
def mc209 (pc : Nat) : Option En := bif Nat.blt pc 32 then (bif Nat.blt pc 15 then
(bif Nat.blt pc 6 then
(bif Nat.blt pc 2 then
(bif Nat.blt pc 1 then
(bif Nat.beq pc 0 then en (.aload_n 0) 0 0 0 0 else none) else
(bif Nat.beq pc 1 then en (.iconst 0) 0 0 0 0 else none)) else
(bif Nat.blt pc 5 then
(bif Nat.beq pc 2 then en (.putfield 51) 5 9 1502 0 else none) else
(bif Nat.beq pc 5 then en (.aload_n 0) 0 0 0 0 else none))) else
(bif Nat.blt pc 10 then
(bif Nat.blt pc 7 then
(bif Nat.beq pc 6 then en (.iload_n 1) 0 0 0 0 else none) else
(bif Nat.beq pc 7 then en (.invokevirtual 121) 157 0 1640 4405 else none)) else
(bif Nat.blt pc 11 then
(bif Nat.beq pc 10 then en (.iconst (-1)) 0 0 0 0 else none) else
(bif Nat.blt pc 14 then
(bif Nat.beq pc 11 then en (.if_icmp .ne 11) 22 0 0 0 else none) else
(bif Nat.beq pc 14 then en (.aload_n 0) 0 0 0 0 else none))))) else
(bif Nat.blt pc 23 then
(bif Nat.blt pc 19 then
(bif Nat.blt pc 16 then
(bif Nat.beq pc 15 then en (.iconst 1) 0 0 0 0 else none) else
(bif Nat.beq pc 16 then en (.invokevirtual 96) 150 0 1584 3405 else none)) else
(bif Nat.blt pc 22 then
(bif Nat.beq pc 19 then en (.goto 12) 31 0 0 0 else none) else
(bif Nat.beq pc 22 then en (.aload_n 0) 0 0 0 0 else none))) else
(bif Nat.blt pc 25 then
(bif Nat.blt pc 24 then
(bif Nat.beq pc 23 then en (.aload_n 0) 0 0 0 0 else none) else
(bif Nat.beq pc 24 then en (.iload_n 1) 0 0 0 0 else none)) else
(bif Nat.blt pc 28 then
(bif Nat.beq pc 25 then en (.invokevirtual 121) 157 0 1640 4405 else none) else
(bif Nat.blt pc 31 then
(bif Nat.beq pc 28 then en (.invokevirtual 141) 165 0 1689 5305 else none) else
(bif Nat.beq pc 31 then en (.ireturn) 0 0 0 0 else none)))))) else none
/-- SingleTrackLineModel.arrivalAlone(I)I -/
def mc210 (pc : Nat) : Option En := bif Nat.blt pc 68 then (bif Nat.blt pc 33 then
(bif Nat.blt pc 16 then
(bif Nat.blt pc 7 then
(bif Nat.blt pc 2 then
(bif Nat.blt pc 1 then
(bif Nat.beq pc 0 then en (.aload_n 0) 0 0 0 0 else none) else
(bif Nat.beq pc 1 then en (.iconst 0) 0 0 0 0 else none)) else
(bif Nat.blt pc 5 then
(bif Nat.beq pc 2 then en (.putfield 51) 5 9 1502 0 else none) else
(bif Nat.blt pc 6 then
(bif Nat.beq pc 5 then en (.aload_n 0) 0 0 0 0 else none) else
(bif Nat.beq pc 6 then en (.iload_n 1) 0 0 0 0 else none)))) else
(bif Nat.blt pc 11 then
(bif Nat.blt pc 10 then
(bif Nat.beq pc 7 then en (.invokevirtual 121) 157 0 1640 4405 else none) else
(bif Nat.beq pc 10 then en (.istore_n 2) 0 0 0 0 else none)) else
(bif Nat.blt pc 12 then
(bif Nat.beq pc 11 then en (.iload_n 2) 0 0 0 0 else none) else
(bif Nat.blt pc 13 then
(bif Nat.beq pc 12 then en (.iconst (-1)) 0 0 0 0 else none) else
(bif Nat.beq pc 13 then en (.if_icmp .ne 9) 22 0 0 0 else none))))) else
(bif Nat.blt pc 23 then
(bif Nat.blt pc 18 then
(bif Nat.blt pc 17 then
(bif Nat.beq pc 16 then en (.aload_n 0) 0 0 0 0 else none) else
(bif Nat.beq pc 17 then en (.iconst 1) 0 0 0 0 else none)) else
(bif Nat.blt pc 21 then
(bif Nat.beq pc 18 then en (.invokevirtual 96) 150 0 1584 3405 else none) else
(bif Nat.blt pc 22 then
(bif Nat.beq pc 21 then en (.ireturn) 0 0 0 0 else none) else
(bif Nat.beq pc 22 then en (.aload_n 0) 0 0 0 0 else none)))) else
(bif Nat.blt pc 30 then
(bif Nat.blt pc 26 then
(bif Nat.beq pc 23 then en (.getfield 9) 5 0 1493 0 else none) else
(bif Nat.blt pc 27 then
(bif Nat.beq pc 26 then en (.iload_n 2) 0 0 0 0 else none) else
(bif Nat.beq pc 27 then en (.invokestatic 61) 154 1 1612 0 else none))) else
(bif Nat.blt pc 31 then
(bif Nat.beq pc 30 then en (.iconst 4) 0 0 0 0 else none) else
(bif Nat.blt pc 32 then
(bif Nat.beq pc 31 then en (.iadd) 0 0 0 0 else none) else
(bif Nat.beq pc 32 then en (.iaload) 0 0 0 0 else none)))))) else
(bif Nat.blt pc 51 then
(bif Nat.blt pc 44 then
(bif Nat.blt pc 37 then
(bif Nat.blt pc 36 then
(bif Nat.beq pc 33 then en (.ifCond .ne 23) 56 0 0 0 else none) else
(bif Nat.beq pc 36 then en (.aload_n 0) 0 0 0 0 else none)) else
(bif Nat.blt pc 40 then
(bif Nat.beq pc 37 then en (.getfield 9) 5 0 1493 0 else none) else
(bif Nat.blt pc 41 then
(bif Nat.beq pc 40 then en (.iload_n 2) 0 0 0 0 else none) else
(bif Nat.beq pc 41 then en (.invokestatic 61) 154 1 1612 0 else none)))) else
(bif Nat.blt pc 46 then
(bif Nat.blt pc 45 then
(bif Nat.beq pc 44 then en (.iconst 3) 0 0 0 0 else none) else
(bif Nat.beq pc 45 then en (.iadd) 0 0 0 0 else none)) else
(bif Nat.blt pc 47 then
(bif Nat.beq pc 46 then en (.iaload) 0 0 0 0 else none) else
(bif Nat.blt pc 48 then
(bif Nat.beq pc 47 then en (.aload_n 0) 0 0 0 0 else none) else
(bif Nat.beq pc 48 then en (.getfield 9) 5 0 1493 0 else none))))) else
(bif Nat.blt pc 58 then
(bif Nat.blt pc 53 then
(bif Nat.blt pc 52 then
(bif Nat.beq pc 51 then en (.iconst 3) 0 0 0 0 else none) else
(bif Nat.beq pc 52 then en (.iaload) 0 0 0 0 else none)) else
(bif Nat.blt pc 56 then
(bif Nat.beq pc 53 then en (.if_icmp .gt 9) 62 0 0 0 else none) else
(bif Nat.blt pc 57 then
(bif Nat.beq pc 56 then en (.aload_n 0) 0 0 0 0 else none) else
(bif Nat.beq pc 57 then en (.iconst 2) 0 0 0 0 else none)))) else
(bif Nat.blt pc 63 then
(bif Nat.blt pc 61 then
(bif Nat.beq pc 58 then en (.invokevirtual 96) 150 0 1584 3405 else none) else
(bif Nat.blt pc 62 then
(bif Nat.beq pc 61 then en (.ireturn) 0 0 0 0 else none) else
(bif Nat.beq pc 62 then en (.aload_n 0) 0 0 0 0 else none))) else
(bif Nat.blt pc 64 then
(bif Nat.beq pc 63 then en (.iload_n 2) 0 0 0 0 else none) else
(bif Nat.blt pc 67 then
(bif Nat.beq pc 64 then en (.invokevirtual 141) 165 0 1689 5305 else none) else
(bif Nat.beq pc 67 then en (.ireturn) 0 0 0 0 else none))))))) else none
/-- SingleTrackLineModel.thinks()V -/
def mc211 (pc : Nat) : Option En := bif Nat.blt pc 27 then (bif Nat.blt pc 13 then
(bif Nat.blt pc 5 then
(bif Nat.blt pc 2 then
(bif Nat.blt pc 1 then
(bif Nat.beq pc 0 then en (.iconst 0) 0 0 0 0 else none) else
(bif Nat.beq pc 1 then en (.istore_n 1) 0 0 0 0 else none)) else
(bif Nat.blt pc 3 then
(bif Nat.beq pc 2 then en (.iload_n 1) 0 0 0 0 else none) else
(bif Nat.beq pc 3 then en (.bipush 76) 0 0 0 0 else none))) else
(bif Nat.blt pc 9 then
(bif Nat.blt pc 8 then
(bif Nat.beq pc 5 then en (.if_icmp .ge 21) 26 0 0 0 else none) else
(bif Nat.beq pc 8 then en (.aload_n 0) 0 0 0 0 else none)) else
(bif Nat.blt pc 12 then
(bif Nat.beq pc 9 then en (.getfield 16) 5 2 1495 0 else none) else
(bif Nat.beq pc 12 then en (.iload_n 1) 0 0 0 0 else none)))) else
(bif Nat.blt pc 19 then
(bif Nat.blt pc 17 then
(bif Nat.blt pc 14 then
(bif Nat.beq pc 13 then en (.aload_n 0) 0 0 0 0 else none) else
(bif Nat.beq pc 14 then en (.getfield 9) 5 0 1493 0 else none)) else
(bif Nat.blt pc 18 then
(bif Nat.beq pc 17 then en (.iload_n 1) 0 0 0 0 else none) else
(bif Nat.beq pc 18 then en (.iaload) 0 0 0 0 else none))) else
(bif Nat.blt pc 23 then
(bif Nat.blt pc 20 then
(bif Nat.beq pc 19 then en (.iastore) 0 0 0 0 else none) else
(bif Nat.beq pc 20 then en (.iinc 1 1) 0 0 0 0 else none)) else
(bif Nat.blt pc 26 then
(bif Nat.beq pc 23 then en (.goto (-21)) 2 0 0 0 else none) else
(bif Nat.beq pc 26 then en (.return_) 0 0 0 0 else none))))) else none
/-- SingleTrackLineModel.comesBack()V -/
def mc212 (pc : Nat) : Option En := bif Nat.blt pc 27 then (bif Nat.blt pc 13 then
(bif Nat.blt pc 5 then
(bif Nat.blt pc 2 then
(bif Nat.blt pc 1 then
(bif Nat.beq pc 0 then en (.iconst 0) 0 0 0 0 else none) else
(bif Nat.beq pc 1 then en (.istore_n 1) 0 0 0 0 else none)) else
(bif Nat.blt pc 3 then
(bif Nat.beq pc 2 then en (.iload_n 1) 0 0 0 0 else none) else
(bif Nat.beq pc 3 then en (.bipush 76) 0 0 0 0 else none))) else
(bif Nat.blt pc 9 then
(bif Nat.blt pc 8 then
(bif Nat.beq pc 5 then en (.if_icmp .ge 21) 26 0 0 0 else none) else
(bif Nat.beq pc 8 then en (.aload_n 0) 0 0 0 0 else none)) else
(bif Nat.blt pc 12 then
(bif Nat.beq pc 9 then en (.getfield 9) 5 0 1493 0 else none) else
(bif Nat.beq pc 12 then en (.iload_n 1) 0 0 0 0 else none)))) else
(bif Nat.blt pc 19 then
(bif Nat.blt pc 17 then
(bif Nat.blt pc 14 then
(bif Nat.beq pc 13 then en (.aload_n 0) 0 0 0 0 else none) else
(bif Nat.beq pc 14 then en (.getfield 16) 5 2 1495 0 else none)) else
(bif Nat.blt pc 18 then
(bif Nat.beq pc 17 then en (.iload_n 1) 0 0 0 0 else none) else
(bif Nat.beq pc 18 then en (.iaload) 0 0 0 0 else none))) else
(bif Nat.blt pc 23 then
(bif Nat.blt pc 20 then
(bif Nat.beq pc 19 then en (.iastore) 0 0 0 0 else none) else
(bif Nat.beq pc 20 then en (.iinc 1 1) 0 0 0 0 else none)) else
(bif Nat.blt pc 26 then
(bif Nat.beq pc 23 then en (.goto (-21)) 2 0 0 0 else none) else
(bif Nat.beq pc 26 then en (.return_) 0 0 0 0 else none))))) else none
/-- SingleTrackLineModel.predictedArrival(I)I -/
def mc213 (pc : Nat) : Option En := bif Nat.blt pc 94 then (bif Nat.blt pc 46 then
(bif Nat.blt pc 21 then
(bif Nat.blt pc 10 then
(bif Nat.blt pc 5 then
(bif Nat.blt pc 1 then
(bif Nat.beq pc 0 then en (.aload_n 0) 0 0 0 0 else none) else
(bif Nat.blt pc 2 then
(bif Nat.beq pc 1 then en (.iconst 0) 0 0 0 0 else none) else
(bif Nat.beq pc 2 then en (.putfield 51) 5 9 1502 0 else none))) else
(bif Nat.blt pc 6 then
(bif Nat.beq pc 5 then en (.aload_n 0) 0 0 0 0 else none) else
(bif Nat.blt pc 7 then
(bif Nat.beq pc 6 then en (.iload_n 1) 0 0 0 0 else none) else
(bif Nat.beq pc 7 then en (.invokevirtual 121) 157 0 1640 4405 else none)))) else
(bif Nat.blt pc 15 then
(bif Nat.blt pc 11 then
(bif Nat.beq pc 10 then en (.iconst (-1)) 0 0 0 0 else none) else
(bif Nat.blt pc 14 then
(bif Nat.beq pc 11 then en (.if_icmp .ne 9) 20 0 0 0 else none) else
(bif Nat.beq pc 14 then en (.aload_n 0) 0 0 0 0 else none))) else
(bif Nat.blt pc 19 then
(bif Nat.blt pc 16 then
(bif Nat.beq pc 15 then en (.iconst 1) 0 0 0 0 else none) else
(bif Nat.beq pc 16 then en (.invokevirtual 96) 150 0 1584 3405 else none)) else
(bif Nat.blt pc 20 then
(bif Nat.beq pc 19 then en (.ireturn) 0 0 0 0 else none) else
(bif Nat.beq pc 20 then en (.aload_n 0) 0 0 0 0 else none))))) else
(bif Nat.blt pc 33 then
(bif Nat.blt pc 26 then
(bif Nat.blt pc 24 then
(bif Nat.beq pc 21 then en (.invokevirtual 195) 211 0 1821 6505 else none) else
(bif Nat.blt pc 25 then
(bif Nat.beq pc 24 then en (.iconst 0) 0 0 0 0 else none) else
(bif Nat.beq pc 25 then en (.istore_n 2) 0 0 0 0 else none))) else
(bif Nat.blt pc 27 then
(bif Nat.beq pc 26 then en (.iload_n 2) 0 0 0 0 else none) else
(bif Nat.blt pc 30 then
(bif Nat.beq pc 27 then en (.sipush 300) 0 0 0 0 else none) else
(bif Nat.beq pc 30 then en (.if_icmp .ge 22) 52 0 0 0 else none)))) else
(bif Nat.blt pc 38 then
(bif Nat.blt pc 34 then
(bif Nat.beq pc 33 then en (.aload_n 0) 0 0 0 0 else none) else
(bif Nat.blt pc 35 then
(bif Nat.beq pc 34 then en (.iload_n 1) 0 0 0 0 else none) else
(bif Nat.beq pc 35 then en (.invokevirtual 121) 157 0 1640 4405 else none))) else
(bif Nat.blt pc 42 then
(bif Nat.blt pc 39 then
(bif Nat.beq pc 38 then en (.iconst (-1)) 0 0 0 0 else none) else
(bif Nat.beq pc 39 then en (.if_icmp .eq 13) 52 0 0 0 else none)) else
(bif Nat.blt pc 43 then
(bif Nat.beq pc 42 then en (.aload_n 0) 0 0 0 0 else none) else
(bif Nat.beq pc 43 then en (.invokevirtual 174) 186 0 1673 4905 else none)))))) else
(bif Nat.blt pc 71 then
(bif Nat.blt pc 58 then
(bif Nat.blt pc 53 then
(bif Nat.blt pc 49 then
(bif Nat.beq pc 46 then en (.iinc 2 1) 0 0 0 0 else none) else
(bif Nat.blt pc 52 then
(bif Nat.beq pc 49 then en (.goto (-23)) 26 0 0 0 else none) else
(bif Nat.beq pc 52 then en (.aload_n 0) 0 0 0 0 else none))) else
(bif Nat.blt pc 54 then
(bif Nat.beq pc 53 then en (.iload_n 1) 0 0 0 0 else none) else
(bif Nat.blt pc 57 then
(bif Nat.beq pc 54 then en (.invokevirtual 121) 157 0 1640 4405 else none) else
(bif Nat.beq pc 57 then en (.iconst (-1)) 0 0 0 0 else none)))) else
(bif Nat.blt pc 65 then
(bif Nat.blt pc 61 then
(bif Nat.beq pc 58 then en (.if_icmp .ne 7) 65 0 0 0 else none) else
(bif Nat.blt pc 62 then
(bif Nat.beq pc 61 then en (.iconst 1) 0 0 0 0 else none) else
(bif Nat.beq pc 62 then en (.goto 4) 66 0 0 0 else none))) else
(bif Nat.blt pc 67 then
(bif Nat.blt pc 66 then
(bif Nat.beq pc 65 then en (.iconst 0) 0 0 0 0 else none) else
(bif Nat.beq pc 66 then en (.istore_n 3) 0 0 0 0 else none)) else
(bif Nat.blt pc 68 then
(bif Nat.beq pc 67 then en (.aload_n 0) 0 0 0 0 else none) else
(bif Nat.beq pc 68 then en (.getfield 9) 5 0 1493 0 else none))))) else
(bif Nat.blt pc 80 then
(bif Nat.blt pc 75 then
(bif Nat.blt pc 72 then
(bif Nat.beq pc 71 then en (.iconst 3) 0 0 0 0 else none) else
(bif Nat.blt pc 73 then
(bif Nat.beq pc 72 then en (.iaload) 0 0 0 0 else none) else
(bif Nat.beq pc 73 then en (.istore 4) 0 0 0 0 else none))) else
(bif Nat.blt pc 76 then
(bif Nat.beq pc 75 then en (.aload_n 0) 0 0 0 0 else none) else
(bif Nat.blt pc 79 then
(bif Nat.beq pc 76 then en (.invokevirtual 198) 212 0 1825 6605 else none) else
(bif Nat.beq pc 79 then en (.iload_n 3) 0 0 0 0 else none)))) else
(bif Nat.blt pc 88 then
(bif Nat.blt pc 83 then
(bif Nat.beq pc 80 then en (.ifCond .eq 8) 88 0 0 0 else none) else
(bif Nat.blt pc 85 then
(bif Nat.beq pc 83 then en (.iload 4) 0 0 0 0 else none) else
(bif Nat.beq pc 85 then en (.goto 8) 93 0 0 0 else none))) else
(bif Nat.blt pc 90 then
(bif Nat.blt pc 89 then
(bif Nat.beq pc 88 then en (.aload_n 0) 0 0 0 0 else none) else
(bif Nat.beq pc 89 then en (.iconst 1) 0 0 0 0 else none)) else
(bif Nat.blt pc 93 then
(bif Nat.beq pc 90 then en (.invokevirtual 96) 150 0 1584 3405 else none) else
(bif Nat.beq pc 93 then en (.ireturn) 0 0 0 0 else none))))))) else none
/-- SingleTrackLineModel.stuckTrains()I -/
def mc214 (pc : Nat) : Option En := bif Nat.blt pc 41 then (bif Nat.blt pc 19 then
(bif Nat.blt pc 9 then
(bif Nat.blt pc 2 then
(bif Nat.blt pc 1 then
(bif Nat.beq pc 0 then en (.aload_n 0) 0 0 0 0 else none) else
(bif Nat.beq pc 1 then en (.iconst 0) 0 0 0 0 else none)) else
(bif Nat.blt pc 5 then
(bif Nat.beq pc 2 then en (.putfield 51) 5 9 1502 0 else none) else
(bif Nat.blt pc 6 then
(bif Nat.beq pc 5 then en (.aload_n 0) 0 0 0 0 else none) else
(bif Nat.beq pc 6 then en (.invokevirtual 195) 211 0 1821 6505 else none)))) else
(bif Nat.blt pc 12 then
(bif Nat.blt pc 10 then
(bif Nat.beq pc 9 then en (.iconst 0) 0 0 0 0 else none) else
(bif Nat.blt pc 11 then
(bif Nat.beq pc 10 then en (.istore_n 1) 0 0 0 0 else none) else
(bif Nat.beq pc 11 then en (.iload_n 1) 0 0 0 0 else none))) else
(bif Nat.blt pc 15 then
(bif Nat.beq pc 12 then en (.sipush 300) 0 0 0 0 else none) else
(bif Nat.blt pc 18 then
(bif Nat.beq pc 15 then en (.if_icmp .ge 13) 28 0 0 0 else none) else
(bif Nat.beq pc 18 then en (.aload_n 0) 0 0 0 0 else none))))) else
(bif Nat.blt pc 33 then
(bif Nat.blt pc 28 then
(bif Nat.blt pc 22 then
(bif Nat.beq pc 19 then en (.invokevirtual 174) 186 0 1673 4905 else none) else
(bif Nat.blt pc 25 then
(bif Nat.beq pc 22 then en (.iinc 1 1) 0 0 0 0 else none) else
(bif Nat.beq pc 25 then en (.goto (-14)) 11 0 0 0 else none))) else
(bif Nat.blt pc 29 then
(bif Nat.beq pc 28 then en (.aload_n 0) 0 0 0 0 else none) else
(bif Nat.blt pc 32 then
(bif Nat.beq pc 29 then en (.getfield 9) 5 0 1493 0 else none) else
(bif Nat.beq pc 32 then en (.iconst 1) 0 0 0 0 else none)))) else
(bif Nat.blt pc 36 then
(bif Nat.blt pc 34 then
(bif Nat.beq pc 33 then en (.iaload) 0 0 0 0 else none) else
(bif Nat.blt pc 35 then
(bif Nat.beq pc 34 then en (.istore_n 1) 0 0 0 0 else none) else
(bif Nat.beq pc 35 then en (.aload_n 0) 0 0 0 0 else none))) else
(bif Nat.blt pc 39 then
(bif Nat.beq pc 36 then en (.invokevirtual 198) 212 0 1825 6605 else none) else
(bif Nat.blt pc 40 then
(bif Nat.beq pc 39 then en (.iload_n 1) 0 0 0 0 else none) else
(bif Nat.beq pc 40 then en (.ireturn) 0 0 0 0 else none)))))) else none
/-- SingleTrackLineModel.trainAtRank(I)I -/
def mc215 (pc : Nat) : Option En := bif Nat.blt pc 142 then (bif Nat.blt pc 66 then
(bif Nat.blt pc 29 then
(bif Nat.blt pc 13 then
(bif Nat.blt pc 6 then
(bif Nat.blt pc 2 then
(bif Nat.blt pc 1 then
(bif Nat.beq pc 0 then en (.aload_n 0) 0 0 0 0 else none) else
(bif Nat.beq pc 1 then en (.iconst 0) 0 0 0 0 else none)) else
(bif Nat.blt pc 5 then
(bif Nat.beq pc 2 then en (.putfield 51) 5 9 1502 0 else none) else
(bif Nat.beq pc 5 then en (.iconst 0) 0 0 0 0 else none))) else
(bif Nat.blt pc 8 then
(bif Nat.blt pc 7 then
(bif Nat.beq pc 6 then en (.istore_n 2) 0 0 0 0 else none) else
(bif Nat.beq pc 7 then en (.iload_n 2) 0 0 0 0 else none)) else
(bif Nat.blt pc 9 then
(bif Nat.beq pc 8 then en (.aload_n 0) 0 0 0 0 else none) else
(bif Nat.blt pc 12 then
(bif Nat.beq pc 9 then en (.getfield 9) 5 0 1493 0 else none) else
(bif Nat.beq pc 12 then en (.iconst 1) 0 0 0 0 else none))))) else
(bif Nat.blt pc 20 then
(bif Nat.blt pc 17 then
(bif Nat.blt pc 14 then
(bif Nat.beq pc 13 then en (.iaload) 0 0 0 0 else none) else
(bif Nat.beq pc 14 then en (.if_icmp .ge 122) 136 0 0 0 else none)) else
(bif Nat.blt pc 18 then
(bif Nat.beq pc 17 then en (.iconst 0) 0 0 0 0 else none) else
(bif Nat.blt pc 19 then
(bif Nat.beq pc 18 then en (.istore_n 3) 0 0 0 0 else none) else
(bif Nat.beq pc 19 then en (.iconst 0) 0 0 0 0 else none)))) else
(bif Nat.blt pc 24 then
(bif Nat.blt pc 22 then
(bif Nat.beq pc 20 then en (.istore 4) 0 0 0 0 else none) else
(bif Nat.beq pc 22 then en (.iload 4) 0 0 0 0 else none)) else
(bif Nat.blt pc 25 then
(bif Nat.beq pc 24 then en (.aload_n 0) 0 0 0 0 else none) else
(bif Nat.blt pc 28 then
(bif Nat.beq pc 25 then en (.getfield 9) 5 0 1493 0 else none) else
(bif Nat.beq pc 28 then en (.iconst 1) 0 0 0 0 else none)))))) else
(bif Nat.blt pc 47 then
(bif Nat.blt pc 39 then
(bif Nat.blt pc 33 then
(bif Nat.blt pc 30 then
(bif Nat.beq pc 29 then en (.iaload) 0 0 0 0 else none) else
(bif Nat.beq pc 30 then en (.if_icmp .ge 85) 115 0 0 0 else none)) else
(bif Nat.blt pc 34 then
(bif Nat.beq pc 33 then en (.aload_n 0) 0 0 0 0 else none) else
(bif Nat.blt pc 37 then
(bif Nat.beq pc 34 then en (.getfield 9) 5 0 1493 0 else none) else
(bif Nat.beq pc 37 then en (.iload 4) 0 0 0 0 else none)))) else
(bif Nat.blt pc 44 then
(bif Nat.blt pc 42 then
(bif Nat.beq pc 39 then en (.invokestatic 61) 154 1 1612 0 else none) else
(bif Nat.beq pc 42 then en (.bipush 8) 0 0 0 0 else none)) else
(bif Nat.blt pc 45 then
(bif Nat.beq pc 44 then en (.iadd) 0 0 0 0 else none) else
(bif Nat.blt pc 46 then
(bif Nat.beq pc 45 then en (.iaload) 0 0 0 0 else none) else
(bif Nat.beq pc 46 then en (.aload_n 0) 0 0 0 0 else none))))) else
(bif Nat.blt pc 57 then
(bif Nat.blt pc 51 then
(bif Nat.blt pc 50 then
(bif Nat.beq pc 47 then en (.getfield 9) 5 0 1493 0 else none) else
(bif Nat.beq pc 50 then en (.iload_n 2) 0 0 0 0 else none)) else
(bif Nat.blt pc 54 then
(bif Nat.beq pc 51 then en (.invokestatic 61) 154 1 1612 0 else none) else
(bif Nat.blt pc 56 then
(bif Nat.beq pc 54 then en (.bipush 8) 0 0 0 0 else none) else
(bif Nat.beq pc 56 then en (.iadd) 0 0 0 0 else none)))) else
(bif Nat.blt pc 59 then
(bif Nat.blt pc 58 then
(bif Nat.beq pc 57 then en (.iaload) 0 0 0 0 else none) else
(bif Nat.beq pc 58 then en (.isub) 0 0 0 0 else none)) else
(bif Nat.blt pc 61 then
(bif Nat.beq pc 59 then en (.istore 5) 0 0 0 0 else none) else
(bif Nat.blt pc 63 then
(bif Nat.beq pc 61 then en (.iload 5) 0 0 0 0 else none) else
(bif Nat.beq pc 63 then en (.ifCond .ne 18) 81 0 0 0 else none))))))) else
(bif Nat.blt pc 106 then
(bif Nat.blt pc 85 then
(bif Nat.blt pc 74 then
(bif Nat.blt pc 68 then
(bif Nat.blt pc 67 then
(bif Nat.beq pc 66 then en (.aload_n 0) 0 0 0 0 else none) else
(bif Nat.beq pc 67 then en (.iload_n 2) 0 0 0 0 else none)) else
(bif Nat.blt pc 71 then
(bif Nat.beq pc 68 then en (.invokevirtual 141) 165 0 1689 5305 else none) else
(bif Nat.blt pc 72 then
(bif Nat.beq pc 71 then en (.aload_n 0) 0 0 0 0 else none) else
(bif Nat.beq pc 72 then en (.iload 4) 0 0 0 0 else none)))) else
(bif Nat.blt pc 78 then
(bif Nat.blt pc 77 then
(bif Nat.beq pc 74 then en (.invokevirtual 141) 165 0 1689 5305 else none) else
(bif Nat.beq pc 77 then en (.isub) 0 0 0 0 else none)) else
(bif Nat.blt pc 81 then
(bif Nat.beq pc 78 then en (.goto 5) 83 0 0 0 else none) else
(bif Nat.blt pc 83 then
(bif Nat.beq pc 81 then en (.iload 5) 0 0 0 0 else none) else
(bif Nat.beq pc 83 then en (.istore 5) 0 0 0 0 else none))))) else
(bif Nat.blt pc 96 then
(bif Nat.blt pc 88 then
(bif Nat.blt pc 86 then
(bif Nat.beq pc 85 then en (.iload_n 3) 0 0 0 0 else none) else
(bif Nat.beq pc 86 then en (.iload 5) 0 0 0 0 else none)) else
(bif Nat.blt pc 91 then
(bif Nat.beq pc 88 then en (.ifCond .gt 14) 102 0 0 0 else none) else
(bif Nat.blt pc 93 then
(bif Nat.beq pc 91 then en (.iload 5) 0 0 0 0 else none) else
(bif Nat.beq pc 93 then en (.ifCond .ne 13) 106 0 0 0 else none)))) else
(bif Nat.blt pc 99 then
(bif Nat.blt pc 98 then
(bif Nat.beq pc 96 then en (.iload 4) 0 0 0 0 else none) else
(bif Nat.beq pc 98 then en (.iload_n 2) 0 0 0 0 else none)) else
(bif Nat.blt pc 102 then
(bif Nat.beq pc 99 then en (.if_icmp .ge 7) 106 0 0 0 else none) else
(bif Nat.blt pc 103 then
(bif Nat.beq pc 102 then en (.iconst 1) 0 0 0 0 else none) else
(bif Nat.beq pc 103 then en (.goto 4) 107 0 0 0 else none)))))) else
(bif Nat.blt pc 124 then
(bif Nat.blt pc 115 then
(bif Nat.blt pc 108 then
(bif Nat.blt pc 107 then
(bif Nat.beq pc 106 then en (.iconst 0) 0 0 0 0 else none) else
(bif Nat.beq pc 107 then en (.iadd) 0 0 0 0 else none)) else
(bif Nat.blt pc 109 then
(bif Nat.beq pc 108 then en (.istore_n 3) 0 0 0 0 else none) else
(bif Nat.blt pc 112 then
(bif Nat.beq pc 109 then en (.iinc 4 1) 0 0 0 0 else none) else
(bif Nat.beq pc 112 then en (.goto (-90)) 22 0 0 0 else none)))) else
(bif Nat.blt pc 117 then
(bif Nat.blt pc 116 then
(bif Nat.beq pc 115 then en (.iload_n 3) 0 0 0 0 else none) else
(bif Nat.beq pc 116 then en (.iload_n 1) 0 0 0 0 else none)) else
(bif Nat.blt pc 120 then
(bif Nat.beq pc 117 then en (.if_icmp .ne 13) 130 0 0 0 else none) else
(bif Nat.blt pc 121 then
(bif Nat.beq pc 120 then en (.aload_n 0) 0 0 0 0 else none) else
(bif Nat.beq pc 121 then en (.getfield 9) 5 0 1493 0 else none))))) else
(bif Nat.blt pc 133 then
(bif Nat.blt pc 128 then
(bif Nat.blt pc 125 then
(bif Nat.beq pc 124 then en (.iload_n 2) 0 0 0 0 else none) else
(bif Nat.beq pc 125 then en (.invokestatic 61) 154 1 1612 0 else none)) else
(bif Nat.blt pc 129 then
(bif Nat.beq pc 128 then en (.iaload) 0 0 0 0 else none) else
(bif Nat.blt pc 130 then
(bif Nat.beq pc 129 then en (.ireturn) 0 0 0 0 else none) else
(bif Nat.beq pc 130 then en (.iinc 2 1) 0 0 0 0 else none)))) else
(bif Nat.blt pc 137 then
(bif Nat.blt pc 136 then
(bif Nat.beq pc 133 then en (.goto (-126)) 7 0 0 0 else none) else
(bif Nat.beq pc 136 then en (.aload_n 0) 0 0 0 0 else none)) else
(bif Nat.blt pc 138 then
(bif Nat.beq pc 137 then en (.iconst 1) 0 0 0 0 else none) else
(bif Nat.blt pc 141 then
(bif Nat.beq pc 138 then en (.invokevirtual 96) 150 0 1584 3405 else none) else
(bif Nat.beq pc 141 then en (.ireturn) 0 0 0 0 else none)))))))) else none
/-- SingleTrackLineModel.time()I -/
def mc216 (pc : Nat) : Option En := bif Nat.blt pc 6 then (bif Nat.blt pc 2 then
(bif Nat.blt pc 1 then
(bif Nat.beq pc 0 then en (.aload_n 0) 0 0 0 0 else none) else
(bif Nat.beq pc 1 then en (.iconst 3) 0 0 0 0 else none)) else
(bif Nat.blt pc 5 then
(bif Nat.beq pc 2 then en (.invokevirtual 180) 189 0 1728 6105 else none) else
(bif Nat.beq pc 5 then en (.ireturn) 0 0 0 0 else none))) else none
/-- SingleTrackLineModel.finishedTrains()I -/
def mc217 (pc : Nat) : Option En := bif Nat.blt pc 6 then (bif Nat.blt pc 2 then
(bif Nat.blt pc 1 then
(bif Nat.beq pc 0 then en (.aload_n 0) 0 0 0 0 else none) else
(bif Nat.beq pc 1 then en (.iconst 4) 0 0 0 0 else none)) else
(bif Nat.blt pc 5 then
(bif Nat.beq pc 2 then en (.invokevirtual 180) 189 0 1728 6105 else none) else
(bif Nat.beq pc 5 then en (.ireturn) 0 0 0 0 else none))) else none
/-- SingleTrackLineModel.lastFinished()I -/
def mc218 (pc : Nat) : Option En := bif Nat.blt pc 29 then (bif Nat.blt pc 14 then
(bif Nat.blt pc 6 then
(bif Nat.blt pc 2 then
(bif Nat.blt pc 1 then
(bif Nat.beq pc 0 then en (.aload_n 0) 0 0 0 0 else none) else
(bif Nat.beq pc 1 then en (.iconst 0) 0 0 0 0 else none)) else
(bif Nat.blt pc 5 then
(bif Nat.beq pc 2 then en (.putfield 51) 5 9 1502 0 else none) else
(bif Nat.beq pc 5 then en (.aload_n 0) 0 0 0 0 else none))) else
(bif Nat.blt pc 10 then
(bif Nat.blt pc 9 then
(bif Nat.beq pc 6 then en (.getfield 9) 5 0 1493 0 else none) else
(bif Nat.beq pc 9 then en (.iconst 4) 0 0 0 0 else none)) else
(bif Nat.blt pc 11 then
(bif Nat.beq pc 10 then en (.iaload) 0 0 0 0 else none) else
(bif Nat.beq pc 11 then en (.ifCond .ne 11) 22 0 0 0 else none)))) else
(bif Nat.blt pc 22 then
(bif Nat.blt pc 16 then
(bif Nat.blt pc 15 then
(bif Nat.beq pc 14 then en (.aload_n 0) 0 0 0 0 else none) else
(bif Nat.beq pc 15 then en (.iconst 1) 0 0 0 0 else none)) else
(bif Nat.blt pc 19 then
(bif Nat.beq pc 16 then en (.invokevirtual 96) 150 0 1584 3405 else none) else
(bif Nat.beq pc 19 then en (.goto 9) 28 0 0 0 else none))) else
(bif Nat.blt pc 26 then
(bif Nat.blt pc 23 then
(bif Nat.beq pc 22 then en (.aload_n 0) 0 0 0 0 else none) else
(bif Nat.beq pc 23 then en (.getfield 9) 5 0 1493 0 else none)) else
(bif Nat.blt pc 27 then
(bif Nat.beq pc 26 then en (.iconst 5) 0 0 0 0 else none) else
(bif Nat.blt pc 28 then
(bif Nat.beq pc 27 then en (.iaload) 0 0 0 0 else none) else
(bif Nat.beq pc 28 then en (.ireturn) 0 0 0 0 else none)))))) else none
/-- SingleTrackLineModel.totalDelay()J -/
def mc219 (pc : Nat) : Option En := bif Nat.blt pc 8 then (bif Nat.blt pc 3 then
(bif Nat.blt pc 1 then
(bif Nat.beq pc 0 then en (.aload_n 0) 0 0 0 0 else none) else
(bif Nat.beq pc 1 then en (.bipush 8) 0 0 0 0 else none)) else
(bif Nat.blt pc 6 then
(bif Nat.beq pc 3 then en (.invokevirtual 180) 189 0 1728 6105 else none) else
(bif Nat.blt pc 7 then
(bif Nat.beq pc 6 then en (.i2l) 0 0 0 0 else none) else
(bif Nat.beq pc 7 then en (.lreturn) 0 0 0 0 else none)))) else none
/-- SingleTrackLineModel.greatestDelay()I -/
def mc220 (pc : Nat) : Option En := bif Nat.blt pc 30 then (bif Nat.blt pc 14 then
(bif Nat.blt pc 6 then
(bif Nat.blt pc 2 then
(bif Nat.blt pc 1 then
(bif Nat.beq pc 0 then en (.aload_n 0) 0 0 0 0 else none) else
(bif Nat.beq pc 1 then en (.iconst 0) 0 0 0 0 else none)) else
(bif Nat.blt pc 5 then
(bif Nat.beq pc 2 then en (.putfield 51) 5 9 1502 0 else none) else
(bif Nat.beq pc 5 then en (.aload_n 0) 0 0 0 0 else none))) else
(bif Nat.blt pc 10 then
(bif Nat.blt pc 9 then
(bif Nat.beq pc 6 then en (.getfield 9) 5 0 1493 0 else none) else
(bif Nat.beq pc 9 then en (.iconst 4) 0 0 0 0 else none)) else
(bif Nat.blt pc 11 then
(bif Nat.beq pc 10 then en (.iaload) 0 0 0 0 else none) else
(bif Nat.beq pc 11 then en (.ifCond .ne 11) 22 0 0 0 else none)))) else
(bif Nat.blt pc 22 then
(bif Nat.blt pc 16 then
(bif Nat.blt pc 15 then
(bif Nat.beq pc 14 then en (.aload_n 0) 0 0 0 0 else none) else
(bif Nat.beq pc 15 then en (.iconst 1) 0 0 0 0 else none)) else
(bif Nat.blt pc 19 then
(bif Nat.beq pc 16 then en (.invokevirtual 96) 150 0 1584 3405 else none) else
(bif Nat.beq pc 19 then en (.goto 10) 29 0 0 0 else none))) else
(bif Nat.blt pc 26 then
(bif Nat.blt pc 23 then
(bif Nat.beq pc 22 then en (.aload_n 0) 0 0 0 0 else none) else
(bif Nat.beq pc 23 then en (.getfield 9) 5 0 1493 0 else none)) else
(bif Nat.blt pc 28 then
(bif Nat.beq pc 26 then en (.bipush 6) 0 0 0 0 else none) else
(bif Nat.blt pc 29 then
(bif Nat.beq pc 28 then en (.iaload) 0 0 0 0 else none) else
(bif Nat.beq pc 29 then en (.ireturn) 0 0 0 0 else none)))))) else none
/-- SingleTrackLineModel.meanDelay()D -/
def mc221 (pc : Nat) : Option En := bif Nat.blt pc 39 then (bif Nat.blt pc 21 then
(bif Nat.blt pc 10 then
(bif Nat.blt pc 5 then
(bif Nat.blt pc 1 then
(bif Nat.beq pc 0 then en (.aload_n 0) 0 0 0 0 else none) else
(bif Nat.blt pc 2 then
(bif Nat.beq pc 1 then en (.iconst 0) 0 0 0 0 else none) else
(bif Nat.beq pc 2 then en (.putfield 51) 5 9 1502 0 else none))) else
(bif Nat.blt pc 6 then
(bif Nat.beq pc 5 then en (.aload_n 0) 0 0 0 0 else none) else
(bif Nat.blt pc 9 then
(bif Nat.beq pc 6 then en (.getfield 9) 5 0 1493 0 else none) else
(bif Nat.beq pc 9 then en (.iconst 4) 0 0 0 0 else none)))) else
(bif Nat.blt pc 15 then
(bif Nat.blt pc 11 then
(bif Nat.beq pc 10 then en (.iaload) 0 0 0 0 else none) else
(bif Nat.blt pc 14 then
(bif Nat.beq pc 11 then en (.ifCond .ne 11) 22 0 0 0 else none) else
(bif Nat.beq pc 14 then en (.aload_n 0) 0 0 0 0 else none))) else
(bif Nat.blt pc 19 then
(bif Nat.blt pc 16 then
(bif Nat.beq pc 15 then en (.iconst 1) 0 0 0 0 else none) else
(bif Nat.beq pc 16 then en (.invokevirtual 96) 150 0 1584 3405 else none)) else
(bif Nat.blt pc 20 then
(bif Nat.beq pc 19 then en (.pop) 0 0 0 0 else none) else
(bif Nat.beq pc 20 then en (.dconst 0) 0 0 0 0 else none))))) else
(bif Nat.blt pc 30 then
(bif Nat.blt pc 26 then
(bif Nat.blt pc 22 then
(bif Nat.beq pc 21 then en (.dreturn) 0 0 0 0 else none) else
(bif Nat.blt pc 23 then
(bif Nat.beq pc 22 then en (.aload_n 0) 0 0 0 0 else none) else
(bif Nat.beq pc 23 then en (.getfield 9) 5 0 1493 0 else none))) else
(bif Nat.blt pc 28 then
(bif Nat.beq pc 26 then en (.bipush 8) 0 0 0 0 else none) else
(bif Nat.blt pc 29 then
(bif Nat.beq pc 28 then en (.iaload) 0 0 0 0 else none) else
(bif Nat.beq pc 29 then en (.i2d) 0 0 0 0 else none)))) else
(bif Nat.blt pc 35 then
(bif Nat.blt pc 31 then
(bif Nat.beq pc 30 then en (.aload_n 0) 0 0 0 0 else none) else
(bif Nat.blt pc 34 then
(bif Nat.beq pc 31 then en (.getfield 9) 5 0 1493 0 else none) else
(bif Nat.beq pc 34 then en (.iconst 4) 0 0 0 0 else none))) else
(bif Nat.blt pc 37 then
(bif Nat.blt pc 36 then
(bif Nat.beq pc 35 then en (.iaload) 0 0 0 0 else none) else
(bif Nat.beq pc 36 then en (.i2d) 0 0 0 0 else none)) else
(bif Nat.blt pc 38 then
(bif Nat.beq pc 37 then en (.ddiv) 0 0 0 0 else none) else
(bif Nat.beq pc 38 then en (.dreturn) 0 0 0 0 else none)))))) else none
/-- SingleTrackLineModel.punctualShare()F -/
def mc222 (pc : Nat) : Option En := bif Nat.blt pc 39 then (bif Nat.blt pc 21 then
(bif Nat.blt pc 10 then
(bif Nat.blt pc 5 then
(bif Nat.blt pc 1 then
(bif Nat.beq pc 0 then en (.aload_n 0) 0 0 0 0 else none) else
(bif Nat.blt pc 2 then
(bif Nat.beq pc 1 then en (.iconst 0) 0 0 0 0 else none) else
(bif Nat.beq pc 2 then en (.putfield 51) 5 9 1502 0 else none))) else
(bif Nat.blt pc 6 then
(bif Nat.beq pc 5 then en (.aload_n 0) 0 0 0 0 else none) else
(bif Nat.blt pc 9 then
(bif Nat.beq pc 6 then en (.getfield 9) 5 0 1493 0 else none) else
(bif Nat.beq pc 9 then en (.iconst 4) 0 0 0 0 else none)))) else
(bif Nat.blt pc 15 then
(bif Nat.blt pc 11 then
(bif Nat.beq pc 10 then en (.iaload) 0 0 0 0 else none) else
(bif Nat.blt pc 14 then
(bif Nat.beq pc 11 then en (.ifCond .ne 11) 22 0 0 0 else none) else
(bif Nat.beq pc 14 then en (.aload_n 0) 0 0 0 0 else none))) else
(bif Nat.blt pc 19 then
(bif Nat.blt pc 16 then
(bif Nat.beq pc 15 then en (.iconst 1) 0 0 0 0 else none) else
(bif Nat.beq pc 16 then en (.invokevirtual 96) 150 0 1584 3405 else none)) else
(bif Nat.blt pc 20 then
(bif Nat.beq pc 19 then en (.pop) 0 0 0 0 else none) else
(bif Nat.beq pc 20 then en (.fconst 0) 0 0 0 0 else none))))) else
(bif Nat.blt pc 30 then
(bif Nat.blt pc 26 then
(bif Nat.blt pc 22 then
(bif Nat.beq pc 21 then en (.freturn) 0 0 0 0 else none) else
(bif Nat.blt pc 23 then
(bif Nat.beq pc 22 then en (.aload_n 0) 0 0 0 0 else none) else
(bif Nat.beq pc 23 then en (.getfield 9) 5 0 1493 0 else none))) else
(bif Nat.blt pc 28 then
(bif Nat.beq pc 26 then en (.bipush 7) 0 0 0 0 else none) else
(bif Nat.blt pc 29 then
(bif Nat.beq pc 28 then en (.iaload) 0 0 0 0 else none) else
(bif Nat.beq pc 29 then en (.i2f) 0 0 0 0 else none)))) else
(bif Nat.blt pc 35 then
(bif Nat.blt pc 31 then
(bif Nat.beq pc 30 then en (.aload_n 0) 0 0 0 0 else none) else
(bif Nat.blt pc 34 then
(bif Nat.beq pc 31 then en (.getfield 9) 5 0 1493 0 else none) else
(bif Nat.beq pc 34 then en (.iconst 4) 0 0 0 0 else none))) else
(bif Nat.blt pc 37 then
(bif Nat.blt pc 36 then
(bif Nat.beq pc 35 then en (.iaload) 0 0 0 0 else none) else
(bif Nat.beq pc 36 then en (.i2f) 0 0 0 0 else none)) else
(bif Nat.blt pc 38 then
(bif Nat.beq pc 37 then en (.fdiv) 0 0 0 0 else none) else
(bif Nat.beq pc 38 then en (.freturn) 0 0 0 0 else none)))))) else none
/-- SingleTrackLineModel.isConsistent()Z -/
def mc223 (pc : Nat) : Option En := bif Nat.blt pc 7 then (bif Nat.blt pc 2 then
(bif Nat.blt pc 1 then
(bif Nat.beq pc 0 then en (.aload_n 0) 0 0 0 0 else none) else
(bif Nat.beq pc 1 then en (.iconst 0) 0 0 0 0 else none)) else
(bif Nat.blt pc 5 then
(bif Nat.beq pc 2 then en (.putfield 51) 5 9 1502 0 else none) else
(bif Nat.blt pc 6 then
(bif Nat.beq pc 5 then en (.iconst 1) 0 0 0 0 else none) else
(bif Nat.beq pc 6 then en (.ireturn) 0 0 0 0 else none)))) else none
/-- SingleTrackLineModel.append(C)I -/
def mc224 (pc : Nat) : Option En := bif Nat.blt pc 45 then (bif Nat.blt pc 24 then
(bif Nat.blt pc 11 then
(bif Nat.blt pc 5 then
(bif Nat.blt pc 1 then
(bif Nat.beq pc 0 then en (.aload_n 0) 0 0 0 0 else none) else
(bif Nat.blt pc 2 then
(bif Nat.beq pc 1 then en (.iconst 0) 0 0 0 0 else none) else
(bif Nat.beq pc 2 then en (.putfield 51) 5 9 1502 0 else none))) else
(bif Nat.blt pc 6 then
(bif Nat.beq pc 5 then en (.aload_n 0) 0 0 0 0 else none) else
(bif Nat.blt pc 9 then
(bif Nat.beq pc 6 then en (.getfield 201) 5 11 1504 0 else none) else
(bif Nat.beq pc 9 then en (.bipush 60) 0 0 0 0 else none)))) else
(bif Nat.blt pc 16 then
(bif Nat.blt pc 14 then
(bif Nat.beq pc 11 then en (.if_icmp .ne 9) 20 0 0 0 else none) else
(bif Nat.blt pc 15 then
(bif Nat.beq pc 14 then en (.aload_n 0) 0 0 0 0 else none) else
(bif Nat.beq pc 15 then en (.iconst 1) 0 0 0 0 else none))) else
(bif Nat.blt pc 20 then
(bif Nat.blt pc 19 then
(bif Nat.beq pc 16 then en (.invokevirtual 96) 150 0 1584 3405 else none) else
(bif Nat.beq pc 19 then en (.ireturn) 0 0 0 0 else none)) else
(bif Nat.blt pc 21 then
(bif Nat.beq pc 20 then en (.aload_n 0) 0 0 0 0 else none) else
(bif Nat.beq pc 21 then en (.getfield 32) 5 10 1503 0 else none))))) else
(bif Nat.blt pc 32 then
(bif Nat.blt pc 29 then
(bif Nat.blt pc 25 then
(bif Nat.beq pc 24 then en (.aload_n 0) 0 0 0 0 else none) else
(bif Nat.blt pc 28 then
(bif Nat.beq pc 25 then en (.getfield 201) 5 11 1504 0 else none) else
(bif Nat.beq pc 28 then en (.iload_n 1) 0 0 0 0 else none))) else
(bif Nat.blt pc 30 then
(bif Nat.beq pc 29 then en (.iastore) 0 0 0 0 else none) else
(bif Nat.blt pc 31 then
(bif Nat.beq pc 30 then en (.aload_n 0) 0 0 0 0 else none) else
(bif Nat.beq pc 31 then en (.dup) 0 0 0 0 else none)))) else
(bif Nat.blt pc 37 then
(bif Nat.blt pc 35 then
(bif Nat.beq pc 32 then en (.getfield 201) 5 11 1504 0 else none) else
(bif Nat.blt pc 36 then
(bif Nat.beq pc 35 then en (.iconst 1) 0 0 0 0 else none) else
(bif Nat.beq pc 36 then en (.iadd) 0 0 0 0 else none))) else
(bif Nat.blt pc 41 then
(bif Nat.blt pc 40 then
(bif Nat.beq pc 37 then en (.putfield 201) 5 11 1504 0 else none) else
(bif Nat.beq pc 40 then en (.aload_n 0) 0 0 0 0 else none)) else
(bif Nat.blt pc 44 then
(bif Nat.beq pc 41 then en (.getfield 201) 5 11 1504 0 else none) else
(bif Nat.beq pc 44 then en (.ireturn) 0 0 0 0 else none)))))) else none
/-- SingleTrackLineModel.here()I -/
def mc225 (pc : Nat) : Option En := bif Nat.blt pc 25 then (bif Nat.blt pc 12 then
(bif Nat.blt pc 5 then
(bif Nat.blt pc 1 then
(bif Nat.beq pc 0 then en (.aload_n 0) 0 0 0 0 else none) else
(bif Nat.blt pc 4 then
(bif Nat.beq pc 1 then en (.getfield 204) 5 18 1511 0 else none) else
(bif Nat.beq pc 4 then en (.aload_n 0) 0 0 0 0 else none))) else
(bif Nat.blt pc 8 then
(bif Nat.beq pc 5 then en (.getfield 207) 5 19 1512 0 else none) else
(bif Nat.blt pc 11 then
(bif Nat.beq pc 8 then en (.if_icmp .ge 15) 23 0 0 0 else none) else
(bif Nat.beq pc 11 then en (.aload_n 0) 0 0 0 0 else none)))) else
(bif Nat.blt pc 19 then
(bif Nat.blt pc 15 then
(bif Nat.beq pc 12 then en (.getfield 32) 5 10 1503 0 else none) else
(bif Nat.blt pc 16 then
(bif Nat.beq pc 15 then en (.aload_n 0) 0 0 0 0 else none) else
(bif Nat.beq pc 16 then en (.getfield 204) 5 18 1511 0 else none))) else
(bif Nat.blt pc 23 then
(bif Nat.blt pc 20 then
(bif Nat.beq pc 19 then en (.iaload) 0 0 0 0 else none) else
(bif Nat.beq pc 20 then en (.goto 4) 24 0 0 0 else none)) else
(bif Nat.blt pc 24 then
(bif Nat.beq pc 23 then en (.iconst (-1)) 0 0 0 0 else none) else
(bif Nat.beq pc 24 then en (.ireturn) 0 0 0 0 else none))))) else none
/-- SingleTrackLineModel.expects(I)V -/
def mc226 (pc : Nat) : Option En := bif Nat.blt pc 46 then (bif Nat.blt pc 24 then
(bif Nat.blt pc 12 then
(bif Nat.blt pc 5 then
(bif Nat.blt pc 1 then
(bif Nat.beq pc 0 then en (.aload_n 0) 0 0 0 0 else none) else
(bif Nat.blt pc 2 then
(bif Nat.beq pc 1 then en (.aload_n 0) 0 0 0 0 else none) else
(bif Nat.beq pc 2 then en (.getfield 210) 5 20 1513 0 else none))) else
(bif Nat.blt pc 8 then
(bif Nat.beq pc 5 then en (.ifCond .ne 11) 16 0 0 0 else none) else
(bif Nat.blt pc 9 then
(bif Nat.beq pc 8 then en (.aload_n 0) 0 0 0 0 else none) else
(bif Nat.beq pc 9 then en (.invokevirtual 214) 225 0 1897 7205 else none)))) else
(bif Nat.blt pc 17 then
(bif Nat.blt pc 13 then
(bif Nat.beq pc 12 then en (.iload_n 1) 0 0 0 0 else none) else
(bif Nat.blt pc 16 then
(bif Nat.beq pc 13 then en (.if_icmp .eq 7) 20 0 0 0 else none) else
(bif Nat.beq pc 16 then en (.iconst 1) 0 0 0 0 else none))) else
(bif Nat.blt pc 20 then
(bif Nat.beq pc 17 then en (.goto 4) 21 0 0 0 else none) else
(bif Nat.blt pc 21 then
(bif Nat.beq pc 20 then en (.iconst 0) 0 0 0 0 else none) else
(bif Nat.beq pc 21 then en (.putfield 210) 5 20 1513 0 else none))))) else
(bif Nat.blt pc 36 then
(bif Nat.blt pc 29 then
(bif Nat.blt pc 25 then
(bif Nat.beq pc 24 then en (.aload_n 0) 0 0 0 0 else none) else
(bif Nat.blt pc 26 then
(bif Nat.beq pc 25 then en (.dup) 0 0 0 0 else none) else
(bif Nat.beq pc 26 then en (.getfield 204) 5 18 1511 0 else none))) else
(bif Nat.blt pc 30 then
(bif Nat.beq pc 29 then en (.aload_n 0) 0 0 0 0 else none) else
(bif Nat.blt pc 33 then
(bif Nat.beq pc 30 then en (.getfield 210) 5 20 1513 0 else none) else
(bif Nat.beq pc 33 then en (.ifCond .eq 7) 40 0 0 0 else none)))) else
(bif Nat.blt pc 41 then
(bif Nat.blt pc 37 then
(bif Nat.beq pc 36 then en (.iconst 0) 0 0 0 0 else none) else
(bif Nat.blt pc 40 then
(bif Nat.beq pc 37 then en (.goto 4) 41 0 0 0 else none) else
(bif Nat.beq pc 40 then en (.iconst 1) 0 0 0 0 else none))) else
(bif Nat.blt pc 42 then
(bif Nat.beq pc 41 then en (.iadd) 0 0 0 0 else none) else
(bif Nat.blt pc 45 then
(bif Nat.beq pc 42 then en (.putfield 204) 5 18 1511 0 else none) else
(bif Nat.beq pc 45 then en (.return_) 0 0 0 0 else none)))))) else none
/-- SingleTrackLineModel.digit()I -/
def mc227 (pc : Nat) : Option En := bif Nat.blt pc 75 then (bif Nat.blt pc 41 then
(bif Nat.blt pc 19 then
(bif Nat.blt pc 8 then
(bif Nat.blt pc 2 then
(bif Nat.blt pc 1 then
(bif Nat.beq pc 0 then en (.aload_n 0) 0 0 0 0 else none) else
(bif Nat.beq pc 1 then en (.aload_n 0) 0 0 0 0 else none)) else
(bif Nat.blt pc 5 then
(bif Nat.beq pc 2 then en (.getfield 210) 5 20 1513 0 else none) else
(bif Nat.beq pc 5 then en (.ifCond .ne 20) 25 0 0 0 else none))) else
(bif Nat.blt pc 12 then
(bif Nat.blt pc 9 then
(bif Nat.beq pc 8 then en (.aload_n 0) 0 0 0 0 else none) else
(bif Nat.beq pc 9 then en (.invokevirtual 214) 225 0 1897 7205 else none)) else
(bif Nat.blt pc 13 then
(bif Nat.beq pc 12 then en (.i2l) 0 0 0 0 else none) else
(bif Nat.blt pc 16 then
(bif Nat.beq pc 13 then en (.ldc2_w 217) 48 0 1901 0 else none) else
(bif Nat.beq pc 16 then en (.ldc2_w 219) 57 0 1902 0 else none))))) else
(bif Nat.blt pc 30 then
(bif Nat.blt pc 25 then
(bif Nat.blt pc 22 then
(bif Nat.beq pc 19 then en (.invokestatic 57) 151 1 1580 0 else none) else
(bif Nat.beq pc 22 then en (.ifCond .ne 7) 29 0 0 0 else none)) else
(bif Nat.blt pc 26 then
(bif Nat.beq pc 25 then en (.iconst 1) 0 0 0 0 else none) else
(bif Nat.blt pc 29 then
(bif Nat.beq pc 26 then en (.goto 4) 30 0 0 0 else none) else
(bif Nat.beq pc 29 then en (.iconst 0) 0 0 0 0 else none)))) else
(bif Nat.blt pc 34 then
(bif Nat.blt pc 33 then
(bif Nat.beq pc 30 then en (.putfield 210) 5 20 1513 0 else none) else
(bif Nat.beq pc 33 then en (.aload_n 0) 0 0 0 0 else none)) else
(bif Nat.blt pc 37 then
(bif Nat.beq pc 34 then en (.getfield 210) 5 20 1513 0 else none) else
(bif Nat.blt pc 40 then
(bif Nat.beq pc 37 then en (.ifCond .eq 7) 44 0 0 0 else none) else
(bif Nat.beq pc 40 then en (.iconst 0) 0 0 0 0 else none)))))) else
(bif Nat.blt pc 57 then
(bif Nat.blt pc 50 then
(bif Nat.blt pc 45 then
(bif Nat.blt pc 44 then
(bif Nat.beq pc 41 then en (.goto 10) 51 0 0 0 else none) else
(bif Nat.beq pc 44 then en (.aload_n 0) 0 0 0 0 else none)) else
(bif Nat.blt pc 48 then
(bif Nat.beq pc 45 then en (.invokevirtual 214) 225 0 1897 7205 else none) else
(bif Nat.beq pc 48 then en (.bipush 48) 0 0 0 0 else none))) else
(bif Nat.blt pc 52 then
(bif Nat.blt pc 51 then
(bif Nat.beq pc 50 then en (.isub) 0 0 0 0 else none) else
(bif Nat.beq pc 51 then en (.istore_n 1) 0 0 0 0 else none)) else
(bif Nat.blt pc 53 then
(bif Nat.beq pc 52 then en (.aload_n 0) 0 0 0 0 else none) else
(bif Nat.blt pc 54 then
(bif Nat.beq pc 53 then en (.dup) 0 0 0 0 else none) else
(bif Nat.beq pc 54 then en (.getfield 204) 5 18 1511 0 else none))))) else
(bif Nat.blt pc 68 then
(bif Nat.blt pc 61 then
(bif Nat.blt pc 58 then
(bif Nat.beq pc 57 then en (.aload_n 0) 0 0 0 0 else none) else
(bif Nat.beq pc 58 then en (.getfield 210) 5 20 1513 0 else none)) else
(bif Nat.blt pc 64 then
(bif Nat.beq pc 61 then en (.ifCond .eq 7) 68 0 0 0 else none) else
(bif Nat.blt pc 65 then
(bif Nat.beq pc 64 then en (.iconst 0) 0 0 0 0 else none) else
(bif Nat.beq pc 65 then en (.goto 4) 69 0 0 0 else none)))) else
(bif Nat.blt pc 70 then
(bif Nat.blt pc 69 then
(bif Nat.beq pc 68 then en (.iconst 1) 0 0 0 0 else none) else
(bif Nat.beq pc 69 then en (.iadd) 0 0 0 0 else none)) else
(bif Nat.blt pc 73 then
(bif Nat.beq pc 70 then en (.putfield 204) 5 18 1511 0 else none) else
(bif Nat.blt pc 74 then
(bif Nat.beq pc 73 then en (.iload_n 1) 0 0 0 0 else none) else
(bif Nat.beq pc 74 then en (.ireturn) 0 0 0 0 else none))))))) else none
/-- SingleTrackLineModel.number()I -/
def mc228 (pc : Nat) : Option En := bif Nat.blt pc 43 then (bif Nat.blt pc 23 then
(bif Nat.blt pc 9 then
(bif Nat.blt pc 4 then
(bif Nat.blt pc 1 then
(bif Nat.beq pc 0 then en (.aload_n 0) 0 0 0 0 else none) else
(bif Nat.beq pc 1 then en (.invokevirtual 221) 227 0 1893 7105 else none)) else
(bif Nat.blt pc 5 then
(bif Nat.beq pc 4 then en (.istore_n 1) 0 0 0 0 else none) else
(bif Nat.blt pc 6 then
(bif Nat.beq pc 5 then en (.aload_n 0) 0 0 0 0 else none) else
(bif Nat.beq pc 6 then en (.getfield 210) 5 20 1513 0 else none)))) else
(bif Nat.blt pc 16 then
(bif Nat.blt pc 12 then
(bif Nat.beq pc 9 then en (.ifCond .ne 32) 41 0 0 0 else none) else
(bif Nat.blt pc 13 then
(bif Nat.beq pc 12 then en (.aload_n 0) 0 0 0 0 else none) else
(bif Nat.beq pc 13 then en (.invokevirtual 214) 225 0 1897 7205 else none))) else
(bif Nat.blt pc 17 then
(bif Nat.beq pc 16 then en (.i2l) 0 0 0 0 else none) else
(bif Nat.blt pc 20 then
(bif Nat.beq pc 17 then en (.ldc2_w 217) 48 0 1901 0 else none) else
(bif Nat.beq pc 20 then en (.ldc2_w 219) 57 0 1902 0 else none))))) else
(bif Nat.blt pc 33 then
(bif Nat.blt pc 29 then
(bif Nat.blt pc 26 then
(bif Nat.beq pc 23 then en (.invokestatic 57) 151 1 1580 0 else none) else
(bif Nat.beq pc 26 then en (.ifCond .eq 15) 41 0 0 0 else none)) else
(bif Nat.blt pc 31 then
(bif Nat.beq pc 29 then en (.bipush 10) 0 0 0 0 else none) else
(bif Nat.blt pc 32 then
(bif Nat.beq pc 31 then en (.iload_n 1) 0 0 0 0 else none) else
(bif Nat.beq pc 32 then en (.imul) 0 0 0 0 else none)))) else
(bif Nat.blt pc 38 then
(bif Nat.blt pc 34 then
(bif Nat.beq pc 33 then en (.aload_n 0) 0 0 0 0 else none) else
(bif Nat.blt pc 37 then
(bif Nat.beq pc 34 then en (.invokevirtual 221) 227 0 1893 7105 else none) else
(bif Nat.beq pc 37 then en (.iadd) 0 0 0 0 else none))) else
(bif Nat.blt pc 41 then
(bif Nat.beq pc 38 then en (.goto 4) 42 0 0 0 else none) else
(bif Nat.blt pc 42 then
(bif Nat.beq pc 41 then en (.iload_n 1) 0 0 0 0 else none) else
(bif Nat.beq pc 42 then en (.ireturn) 0 0 0 0 else none)))))) else none
/-- SingleTrackLineModel.likeness(I)I -/
def mc229 (pc : Nat) : Option En := bif Nat.blt pc 71 then (bif Nat.blt pc 30 then
(bif Nat.blt pc 15 then
(bif Nat.blt pc 7 then
(bif Nat.blt pc 2 then
(bif Nat.blt pc 1 then
(bif Nat.beq pc 0 then en (.iconst 0) 0 0 0 0 else none) else
(bif Nat.beq pc 1 then en (.istore_n 2) 0 0 0 0 else none)) else
(bif Nat.blt pc 3 then
(bif Nat.beq pc 2 then en (.aload_n 0) 0 0 0 0 else none) else
(bif Nat.blt pc 6 then
(bif Nat.beq pc 3 then en (.getfield 42) 5 15 1508 0 else none) else
(bif Nat.beq pc 6 then en (.iload_n 1) 0 0 0 0 else none)))) else
(bif Nat.blt pc 10 then
(bif Nat.blt pc 8 then
(bif Nat.beq pc 7 then en (.iconst 1) 0 0 0 0 else none) else
(bif Nat.blt pc 9 then
(bif Nat.beq pc 8 then en (.iadd) 0 0 0 0 else none) else
(bif Nat.beq pc 9 then en (.iaload) 0 0 0 0 else none))) else
(bif Nat.blt pc 11 then
(bif Nat.beq pc 10 then en (.aload_n 0) 0 0 0 0 else none) else
(bif Nat.blt pc 14 then
(bif Nat.beq pc 11 then en (.getfield 42) 5 15 1508 0 else none) else
(bif Nat.beq pc 14 then en (.iload_n 1) 0 0 0 0 else none))))) else
(bif Nat.blt pc 20 then
(bif Nat.blt pc 17 then
(bif Nat.blt pc 16 then
(bif Nat.beq pc 15 then en (.iaload) 0 0 0 0 else none) else
(bif Nat.beq pc 16 then en (.isub) 0 0 0 0 else none)) else
(bif Nat.blt pc 18 then
(bif Nat.beq pc 17 then en (.istore_n 3) 0 0 0 0 else none) else
(bif Nat.blt pc 19 then
(bif Nat.beq pc 18 then en (.iload_n 2) 0 0 0 0 else none) else
(bif Nat.beq pc 19 then en (.iload_n 3) 0 0 0 0 else none)))) else
(bif Nat.blt pc 27 then
(bif Nat.blt pc 23 then
(bif Nat.beq pc 20 then en (.if_icmp .ge 49) 69 0 0 0 else none) else
(bif Nat.blt pc 24 then
(bif Nat.beq pc 23 then en (.aload_n 0) 0 0 0 0 else none) else
(bif Nat.beq pc 24 then en (.getfield 204) 5 18 1511 0 else none))) else
(bif Nat.blt pc 28 then
(bif Nat.beq pc 27 then en (.iload_n 2) 0 0 0 0 else none) else
(bif Nat.blt pc 29 then
(bif Nat.beq pc 28 then en (.iadd) 0 0 0 0 else none) else
(bif Nat.beq pc 29 then en (.aload_n 0) 0 0 0 0 else none)))))) else
(bif Nat.blt pc 51 then
(bif Nat.blt pc 41 then
(bif Nat.blt pc 36 then
(bif Nat.blt pc 33 then
(bif Nat.beq pc 30 then en (.getfield 207) 5 19 1512 0 else none) else
(bif Nat.beq pc 33 then en (.if_icmp .ge 36) 69 0 0 0 else none)) else
(bif Nat.blt pc 37 then
(bif Nat.beq pc 36 then en (.aload_n 0) 0 0 0 0 else none) else
(bif Nat.blt pc 40 then
(bif Nat.beq pc 37 then en (.getfield 32) 5 10 1503 0 else none) else
(bif Nat.beq pc 40 then en (.aload_n 0) 0 0 0 0 else none)))) else
(bif Nat.blt pc 46 then
(bif Nat.blt pc 44 then
(bif Nat.beq pc 41 then en (.getfield 204) 5 18 1511 0 else none) else
(bif Nat.blt pc 45 then
(bif Nat.beq pc 44 then en (.iload_n 2) 0 0 0 0 else none) else
(bif Nat.beq pc 45 then en (.iadd) 0 0 0 0 else none))) else
(bif Nat.blt pc 47 then
(bif Nat.beq pc 46 then en (.iaload) 0 0 0 0 else none) else
(bif Nat.blt pc 48 then
(bif Nat.beq pc 47 then en (.aload_n 0) 0 0 0 0 else none) else
(bif Nat.beq pc 48 then en (.getfield 38) 5 14 1507 0 else none))))) else
(bif Nat.blt pc 59 then
(bif Nat.blt pc 56 then
(bif Nat.blt pc 52 then
(bif Nat.beq pc 51 then en (.aload_n 0) 0 0 0 0 else none) else
(bif Nat.blt pc 55 then
(bif Nat.beq pc 52 then en (.getfield 42) 5 15 1508 0 else none) else
(bif Nat.beq pc 55 then en (.iload_n 1) 0 0 0 0 else none))) else
(bif Nat.blt pc 57 then
(bif Nat.beq pc 56 then en (.iaload) 0 0 0 0 else none) else
(bif Nat.blt pc 58 then
(bif Nat.beq pc 57 then en (.iload_n 2) 0 0 0 0 else none) else
(bif Nat.beq pc 58 then en (.iadd) 0 0 0 0 else none)))) else
(bif Nat.blt pc 66 then
(bif Nat.blt pc 60 then
(bif Nat.beq pc 59 then en (.caload) 0 0 0 0 else none) else
(bif Nat.blt pc 63 then
(bif Nat.beq pc 60 then en (.if_icmp .ne 9) 69 0 0 0 else none) else
(bif Nat.beq pc 63 then en (.iinc 2 1) 0 0 0 0 else none))) else
(bif Nat.blt pc 69 then
(bif Nat.beq pc 66 then en (.goto (-48)) 18 0 0 0 else none) else
(bif Nat.blt pc 70 then
(bif Nat.beq pc 69 then en (.iload_n 2) 0 0 0 0 else none) else
(bif Nat.beq pc 70 then en (.ireturn) 0 0 0 0 else none))))))) else none
/-- SingleTrackLineModel.readArguments(II)V -/
def mc230 (pc : Nat) : Option En := bif Nat.blt pc 79 then (bif Nat.blt pc 38 then
(bif Nat.blt pc 17 then
(bif Nat.blt pc 9 then
(bif Nat.blt pc 2 then
(bif Nat.blt pc 1 then
(bif Nat.beq pc 0 then en (.iload_n 1) 0 0 0 0 else none) else
(bif Nat.beq pc 1 then en (.iconst 2) 0 0 0 0 else none)) else
(bif Nat.blt pc 5 then
(bif Nat.beq pc 2 then en (.if_icmp .le 14) 16 0 0 0 else none) else
(bif Nat.blt pc 6 then
(bif Nat.beq pc 5 then en (.aload_n 0) 0 0 0 0 else none) else
(bif Nat.beq pc 6 then en (.getfield 45) 5 16 1509 0 else none)))) else
(bif Nat.blt pc 14 then
(bif Nat.blt pc 10 then
(bif Nat.beq pc 9 then en (.iload_n 2) 0 0 0 0 else none) else
(bif Nat.blt pc 11 then
(bif Nat.beq pc 10 then en (.aload_n 0) 0 0 0 0 else none) else
(bif Nat.beq pc 11 then en (.invokevirtual 224) 228 0 1889 7005 else none))) else
(bif Nat.blt pc 15 then
(bif Nat.beq pc 14 then en (.iastore) 0 0 0 0 else none) else
(bif Nat.blt pc 16 then
(bif Nat.beq pc 15 then en (.return_) 0 0 0 0 else none) else
(bif Nat.beq pc 16 then en (.aload_n 0) 0 0 0 0 else none))))) else
(bif Nat.blt pc 27 then
(bif Nat.blt pc 22 then
(bif Nat.blt pc 20 then
(bif Nat.beq pc 17 then en (.getfield 45) 5 16 1509 0 else none) else
(bif Nat.blt pc 21 then
(bif Nat.beq pc 20 then en (.iload_n 2) 0 0 0 0 else none) else
(bif Nat.beq pc 21 then en (.aload_n 0) 0 0 0 0 else none))) else
(bif Nat.blt pc 25 then
(bif Nat.beq pc 22 then en (.invokevirtual 221) 227 0 1893 7105 else none) else
(bif Nat.blt pc 26 then
(bif Nat.beq pc 25 then en (.iastore) 0 0 0 0 else none) else
(bif Nat.beq pc 26 then en (.aload_n 0) 0 0 0 0 else none)))) else
(bif Nat.blt pc 33 then
(bif Nat.blt pc 29 then
(bif Nat.beq pc 27 then en (.bipush 32) 0 0 0 0 else none) else
(bif Nat.blt pc 32 then
(bif Nat.beq pc 29 then en (.invokevirtual 227) 226 0 1903 7305 else none) else
(bif Nat.beq pc 32 then en (.aload_n 0) 0 0 0 0 else none))) else
(bif Nat.blt pc 36 then
(bif Nat.beq pc 33 then en (.getfield 45) 5 16 1509 0 else none) else
(bif Nat.blt pc 37 then
(bif Nat.beq pc 36 then en (.iload_n 2) 0 0 0 0 else none) else
(bif Nat.beq pc 37 then en (.iconst 1) 0 0 0 0 else none)))))) else
(bif Nat.blt pc 60 then
(bif Nat.blt pc 50 then
(bif Nat.blt pc 43 then
(bif Nat.blt pc 39 then
(bif Nat.beq pc 38 then en (.iadd) 0 0 0 0 else none) else
(bif Nat.blt pc 40 then
(bif Nat.beq pc 39 then en (.iload_n 1) 0 0 0 0 else none) else
(bif Nat.beq pc 40 then en (.ifCond .ne 10) 50 0 0 0 else none))) else
(bif Nat.blt pc 44 then
(bif Nat.beq pc 43 then en (.aload_n 0) 0 0 0 0 else none) else
(bif Nat.blt pc 47 then
(bif Nat.beq pc 44 then en (.invokevirtual 224) 228 0 1889 7005 else none) else
(bif Nat.beq pc 47 then en (.goto 7) 54 0 0 0 else none)))) else
(bif Nat.blt pc 55 then
(bif Nat.blt pc 51 then
(bif Nat.beq pc 50 then en (.aload_n 0) 0 0 0 0 else none) else
(bif Nat.blt pc 54 then
(bif Nat.beq pc 51 then en (.invokevirtual 221) 227 0 1893 7105 else none) else
(bif Nat.beq pc 54 then en (.iastore) 0 0 0 0 else none))) else
(bif Nat.blt pc 56 then
(bif Nat.beq pc 55 then en (.iload_n 1) 0 0 0 0 else none) else
(bif Nat.blt pc 57 then
(bif Nat.beq pc 56 then en (.iconst 2) 0 0 0 0 else none) else
(bif Nat.beq pc 57 then en (.if_icmp .ne 21) 78 0 0 0 else none))))) else
(bif Nat.blt pc 71 then
(bif Nat.blt pc 66 then
(bif Nat.blt pc 61 then
(bif Nat.beq pc 60 then en (.aload_n 0) 0 0 0 0 else none) else
(bif Nat.blt pc 63 then
(bif Nat.beq pc 61 then en (.bipush 32) 0 0 0 0 else none) else
(bif Nat.beq pc 63 then en (.invokevirtual 227) 226 0 1903 7305 else none))) else
(bif Nat.blt pc 67 then
(bif Nat.beq pc 66 then en (.aload_n 0) 0 0 0 0 else none) else
(bif Nat.blt pc 70 then
(bif Nat.beq pc 67 then en (.getfield 45) 5 16 1509 0 else none) else
(bif Nat.beq pc 70 then en (.iload_n 2) 0 0 0 0 else none)))) else
(bif Nat.blt pc 74 then
(bif Nat.blt pc 72 then
(bif Nat.beq pc 71 then en (.iconst 2) 0 0 0 0 else none) else
(bif Nat.blt pc 73 then
(bif Nat.beq pc 72 then en (.iadd) 0 0 0 0 else none) else
(bif Nat.beq pc 73 then en (.aload_n 0) 0 0 0 0 else none))) else
(bif Nat.blt pc 77 then
(bif Nat.beq pc 74 then en (.invokevirtual 224) 228 0 1889 7005 else none) else
(bif Nat.blt pc 78 then
(bif Nat.beq pc 77 then en (.iastore) 0 0 0 0 else none) else
(bif Nat.beq pc 78 then en (.return_) 0 0 0 0 else none))))))) else none
/-- SingleTrackLineModel.readCommand()V -/
def mc231 (pc : Nat) : Option En := bif Nat.blt pc 119 then (bif Nat.blt pc 60 then
(bif Nat.blt pc 27 then
(bif Nat.blt pc 11 then
(bif Nat.blt pc 6 then
(bif Nat.blt pc 2 then
(bif Nat.blt pc 1 then
(bif Nat.beq pc 0 then en (.iconst 4) 0 0 0 0 else none) else
(bif Nat.beq pc 1 then en (.aload_n 0) 0 0 0 0 else none)) else
(bif Nat.blt pc 5 then
(bif Nat.beq pc 2 then en (.getfield 230) 5 17 1510 0 else none) else
(bif Nat.beq pc 5 then en (.imul) 0 0 0 0 else none))) else
(bif Nat.blt pc 8 then
(bif Nat.blt pc 7 then
(bif Nat.beq pc 6 then en (.istore_n 1) 0 0 0 0 else none) else
(bif Nat.beq pc 7 then en (.iconst 0) 0 0 0 0 else none)) else
(bif Nat.blt pc 9 then
(bif Nat.beq pc 8 then en (.istore_n 2) 0 0 0 0 else none) else
(bif Nat.blt pc 10 then
(bif Nat.beq pc 9 then en (.iconst 1) 0 0 0 0 else none) else
(bif Nat.beq pc 10 then en (.istore_n 3) 0 0 0 0 else none))))) else
(bif Nat.blt pc 18 then
(bif Nat.blt pc 14 then
(bif Nat.blt pc 12 then
(bif Nat.beq pc 11 then en (.iload_n 3) 0 0 0 0 else none) else
(bif Nat.beq pc 12 then en (.bipush 7) 0 0 0 0 else none)) else
(bif Nat.blt pc 17 then
(bif Nat.beq pc 14 then en (.if_icmp .ge 28) 42 0 0 0 else none) else
(bif Nat.beq pc 17 then en (.aload_n 0) 0 0 0 0 else none))) else
(bif Nat.blt pc 22 then
(bif Nat.blt pc 19 then
(bif Nat.beq pc 18 then en (.iload_n 3) 0 0 0 0 else none) else
(bif Nat.beq pc 19 then en (.invokevirtual 233) 229 0 1881 6805 else none)) else
(bif Nat.blt pc 23 then
(bif Nat.beq pc 22 then en (.aload_n 0) 0 0 0 0 else none) else
(bif Nat.blt pc 24 then
(bif Nat.beq pc 23 then en (.iload_n 2) 0 0 0 0 else none) else
(bif Nat.beq pc 24 then en (.invokevirtual 233) 229 0 1881 6805 else none)))))) else
(bif Nat.blt pc 44 then
(bif Nat.blt pc 35 then
(bif Nat.blt pc 31 then
(bif Nat.blt pc 30 then
(bif Nat.beq pc 27 then en (.if_icmp .le 7) 34 0 0 0 else none) else
(bif Nat.beq pc 30 then en (.iload_n 3) 0 0 0 0 else none)) else
(bif Nat.blt pc 34 then
(bif Nat.beq pc 31 then en (.goto 4) 35 0 0 0 else none) else
(bif Nat.beq pc 34 then en (.iload_n 2) 0 0 0 0 else none))) else
(bif Nat.blt pc 39 then
(bif Nat.blt pc 36 then
(bif Nat.beq pc 35 then en (.istore_n 2) 0 0 0 0 else none) else
(bif Nat.beq pc 36 then en (.iinc 3 1) 0 0 0 0 else none)) else
(bif Nat.blt pc 42 then
(bif Nat.beq pc 39 then en (.goto (-28)) 11 0 0 0 else none) else
(bif Nat.blt pc 43 then
(bif Nat.beq pc 42 then en (.aload_n 0) 0 0 0 0 else none) else
(bif Nat.beq pc 43 then en (.iload_n 2) 0 0 0 0 else none))))) else
(bif Nat.blt pc 53 then
(bif Nat.blt pc 48 then
(bif Nat.blt pc 47 then
(bif Nat.beq pc 44 then en (.invokevirtual 233) 229 0 1881 6805 else none) else
(bif Nat.beq pc 47 then en (.istore_n 3) 0 0 0 0 else none)) else
(bif Nat.blt pc 49 then
(bif Nat.beq pc 48 then en (.aload_n 0) 0 0 0 0 else none) else
(bif Nat.blt pc 50 then
(bif Nat.beq pc 49 then en (.dup) 0 0 0 0 else none) else
(bif Nat.beq pc 50 then en (.getfield 204) 5 18 1511 0 else none)))) else
(bif Nat.blt pc 55 then
(bif Nat.blt pc 54 then
(bif Nat.beq pc 53 then en (.iload_n 3) 0 0 0 0 else none) else
(bif Nat.beq pc 54 then en (.iadd) 0 0 0 0 else none)) else
(bif Nat.blt pc 58 then
(bif Nat.beq pc 55 then en (.putfield 204) 5 18 1511 0 else none) else
(bif Nat.blt pc 59 then
(bif Nat.beq pc 58 then en (.aload_n 0) 0 0 0 0 else none) else
(bif Nat.beq pc 59 then en (.iload_n 3) 0 0 0 0 else none))))))) else
(bif Nat.blt pc 90 then
(bif Nat.blt pc 73 then
(bif Nat.blt pc 66 then
(bif Nat.blt pc 64 then
(bif Nat.blt pc 61 then
(bif Nat.beq pc 60 then en (.aload_n 0) 0 0 0 0 else none) else
(bif Nat.beq pc 61 then en (.getfield 42) 5 15 1508 0 else none)) else
(bif Nat.blt pc 65 then
(bif Nat.beq pc 64 then en (.iload_n 2) 0 0 0 0 else none) else
(bif Nat.beq pc 65 then en (.iconst 1) 0 0 0 0 else none))) else
(bif Nat.blt pc 68 then
(bif Nat.blt pc 67 then
(bif Nat.beq pc 66 then en (.iadd) 0 0 0 0 else none) else
(bif Nat.beq pc 67 then en (.iaload) 0 0 0 0 else none)) else
(bif Nat.blt pc 69 then
(bif Nat.beq pc 68 then en (.aload_n 0) 0 0 0 0 else none) else
(bif Nat.blt pc 72 then
(bif Nat.beq pc 69 then en (.getfield 42) 5 15 1508 0 else none) else
(bif Nat.beq pc 72 then en (.iload_n 2) 0 0 0 0 else none))))) else
(bif Nat.blt pc 79 then
(bif Nat.blt pc 75 then
(bif Nat.blt pc 74 then
(bif Nat.beq pc 73 then en (.iaload) 0 0 0 0 else none) else
(bif Nat.beq pc 74 then en (.isub) 0 0 0 0 else none)) else
(bif Nat.blt pc 78 then
(bif Nat.beq pc 75 then en (.if_icmp .ge 7) 82 0 0 0 else none) else
(bif Nat.beq pc 78 then en (.iconst 1) 0 0 0 0 else none))) else
(bif Nat.blt pc 83 then
(bif Nat.blt pc 82 then
(bif Nat.beq pc 79 then en (.goto 4) 83 0 0 0 else none) else
(bif Nat.beq pc 82 then en (.iconst 0) 0 0 0 0 else none)) else
(bif Nat.blt pc 86 then
(bif Nat.beq pc 83 then en (.putfield 210) 5 20 1513 0 else none) else
(bif Nat.blt pc 87 then
(bif Nat.beq pc 86 then en (.aload_n 0) 0 0 0 0 else none) else
(bif Nat.beq pc 87 then en (.getfield 210) 5 20 1513 0 else none)))))) else
(bif Nat.blt pc 105 then
(bif Nat.blt pc 98 then
(bif Nat.blt pc 94 then
(bif Nat.blt pc 93 then
(bif Nat.beq pc 90 then en (.ifCond .ne 28) 118 0 0 0 else none) else
(bif Nat.beq pc 93 then en (.aload_n 0) 0 0 0 0 else none)) else
(bif Nat.blt pc 97 then
(bif Nat.beq pc 94 then en (.getfield 45) 5 16 1509 0 else none) else
(bif Nat.beq pc 97 then en (.iload_n 1) 0 0 0 0 else none))) else
(bif Nat.blt pc 100 then
(bif Nat.blt pc 99 then
(bif Nat.beq pc 98 then en (.iload_n 2) 0 0 0 0 else none) else
(bif Nat.beq pc 99 then en (.iastore) 0 0 0 0 else none)) else
(bif Nat.blt pc 101 then
(bif Nat.beq pc 100 then en (.aload_n 0) 0 0 0 0 else none) else
(bif Nat.blt pc 102 then
(bif Nat.beq pc 101 then en (.dup) 0 0 0 0 else none) else
(bif Nat.beq pc 102 then en (.getfield 230) 5 17 1510 0 else none))))) else
(bif Nat.blt pc 112 then
(bif Nat.blt pc 107 then
(bif Nat.blt pc 106 then
(bif Nat.beq pc 105 then en (.iconst 1) 0 0 0 0 else none) else
(bif Nat.beq pc 106 then en (.iadd) 0 0 0 0 else none)) else
(bif Nat.blt pc 110 then
(bif Nat.beq pc 107 then en (.putfield 230) 5 17 1510 0 else none) else
(bif Nat.blt pc 111 then
(bif Nat.beq pc 110 then en (.aload_n 0) 0 0 0 0 else none) else
(bif Nat.beq pc 111 then en (.iload_n 2) 0 0 0 0 else none)))) else
(bif Nat.blt pc 114 then
(bif Nat.blt pc 113 then
(bif Nat.beq pc 112 then en (.iload_n 1) 0 0 0 0 else none) else
(bif Nat.beq pc 113 then en (.iconst 1) 0 0 0 0 else none)) else
(bif Nat.blt pc 115 then
(bif Nat.beq pc 114 then en (.iadd) 0 0 0 0 else none) else
(bif Nat.blt pc 118 then
(bif Nat.beq pc 115 then en (.invokevirtual 236) 230 0 1885 6905 else none) else
(bif Nat.beq pc 118 then en (.return_) 0 0 0 0 else none)))))))) else none
/-- SingleTrackLineModel.does(I)V -/
def mc232 (pc : Nat) : Option En := bif Nat.blt pc 138 then (bif Nat.blt pc 85 then
(bif Nat.blt pc 22 then
(bif Nat.blt pc 10 then
(bif Nat.blt pc 6 then
(bif Nat.blt pc 4 then
(bif Nat.blt pc 1 then
(bif Nat.beq pc 0 then en (.aload_n 0) 0 0 0 0 else none) else
(bif Nat.beq pc 1 then en (.getfield 45) 5 16 1509 0 else none)) else
(bif Nat.blt pc 5 then
(bif Nat.beq pc 4 then en (.iload_n 1) 0 0 0 0 else none) else
(bif Nat.beq pc 5 then en (.iconst 1) 0 0 0 0 else none))) else
(bif Nat.blt pc 8 then
(bif Nat.blt pc 7 then
(bif Nat.beq pc 6 then en (.iadd) 0 0 0 0 else none) else
(bif Nat.beq pc 7 then en (.iaload) 0 0 0 0 else none)) else
(bif Nat.blt pc 9 then
(bif Nat.beq pc 8 then en (.istore_n 2) 0 0 0 0 else none) else
(bif Nat.beq pc 9 then en (.aload_n 0) 0 0 0 0 else none)))) else
(bif Nat.blt pc 16 then
(bif Nat.blt pc 14 then
(bif Nat.blt pc 13 then
(bif Nat.beq pc 10 then en (.getfield 45) 5 16 1509 0 else none) else
(bif Nat.beq pc 13 then en (.iload_n 1) 0 0 0 0 else none)) else
(bif Nat.blt pc 15 then
(bif Nat.beq pc 14 then en (.iconst 2) 0 0 0 0 else none) else
(bif Nat.beq pc 15 then en (.iadd) 0 0 0 0 else none))) else
(bif Nat.blt pc 18 then
(bif Nat.blt pc 17 then
(bif Nat.beq pc 16 then en (.iaload) 0 0 0 0 else none) else
(bif Nat.beq pc 17 then en (.istore_n 3) 0 0 0 0 else none)) else
(bif Nat.blt pc 19 then
(bif Nat.beq pc 18 then en (.aload_n 0) 0 0 0 0 else none) else
(bif Nat.beq pc 19 then en (.getfield 45) 5 16 1509 0 else none))))) else
(bif Nat.blt pc 71 then
(bif Nat.blt pc 65 then
(bif Nat.blt pc 24 then
(bif Nat.blt pc 23 then
(bif Nat.beq pc 22 then en (.iload_n 1) 0 0 0 0 else none) else
(bif Nat.beq pc 23 then en (.iaload) 0 0 0 0 else none)) else
(bif Nat.blt pc 64 then
(bif Nat.beq pc 24 then en (.tableswitch 107 0 5 #[40, 50, 60, 78, 88, 98]) 40 0 0 0 else none) else
(bif Nat.beq pc 64 then en (.aload_n 0) 0 0 0 0 else none))) else
(bif Nat.blt pc 67 then
(bif Nat.blt pc 66 then
(bif Nat.beq pc 65 then en (.iload_n 2) 0 0 0 0 else none) else
(bif Nat.beq pc 66 then en (.iload_n 3) 0 0 0 0 else none)) else
(bif Nat.blt pc 70 then
(bif Nat.beq pc 67 then en (.invokevirtual 102) 167 0 1575 3305 else none) else
(bif Nat.beq pc 70 then en (.pop) 0 0 0 0 else none)))) else
(bif Nat.blt pc 77 then
(bif Nat.blt pc 75 then
(bif Nat.blt pc 74 then
(bif Nat.beq pc 71 then en (.goto 66) 137 0 0 0 else none) else
(bif Nat.beq pc 74 then en (.aload_n 0) 0 0 0 0 else none)) else
(bif Nat.blt pc 76 then
(bif Nat.beq pc 75 then en (.iload_n 2) 0 0 0 0 else none) else
(bif Nat.beq pc 76 then en (.iload_n 3) 0 0 0 0 else none))) else
(bif Nat.blt pc 81 then
(bif Nat.blt pc 80 then
(bif Nat.beq pc 77 then en (.invokevirtual 112) 169 0 1596 3605 else none) else
(bif Nat.beq pc 80 then en (.pop) 0 0 0 0 else none)) else
(bif Nat.blt pc 84 then
(bif Nat.beq pc 81 then en (.goto 56) 137 0 0 0 else none) else
(bif Nat.beq pc 84 then en (.aload_n 0) 0 0 0 0 else none)))))) else
(bif Nat.blt pc 109 then
(bif Nat.blt pc 95 then
(bif Nat.blt pc 91 then
(bif Nat.blt pc 87 then
(bif Nat.blt pc 86 then
(bif Nat.beq pc 85 then en (.iload_n 2) 0 0 0 0 else none) else
(bif Nat.beq pc 86 then en (.iload_n 3) 0 0 0 0 else none)) else
(bif Nat.blt pc 88 then
(bif Nat.beq pc 87 then en (.aload_n 0) 0 0 0 0 else none) else
(bif Nat.beq pc 88 then en (.getfield 45) 5 16 1509 0 else none))) else
(bif Nat.blt pc 93 then
(bif Nat.blt pc 92 then
(bif Nat.beq pc 91 then en (.iload_n 1) 0 0 0 0 else none) else
(bif Nat.beq pc 92 then en (.iconst 3) 0 0 0 0 else none)) else
(bif Nat.blt pc 94 then
(bif Nat.beq pc 93 then en (.iadd) 0 0 0 0 else none) else
(bif Nat.beq pc 94 then en (.iaload) 0 0 0 0 else none)))) else
(bif Nat.blt pc 103 then
(bif Nat.blt pc 99 then
(bif Nat.blt pc 98 then
(bif Nat.beq pc 95 then en (.invokevirtual 117) 171 0 1627 4205 else none) else
(bif Nat.beq pc 98 then en (.pop) 0 0 0 0 else none)) else
(bif Nat.blt pc 102 then
(bif Nat.beq pc 99 then en (.goto 38) 137 0 0 0 else none) else
(bif Nat.beq pc 102 then en (.aload_n 0) 0 0 0 0 else none))) else
(bif Nat.blt pc 105 then
(bif Nat.blt pc 104 then
(bif Nat.beq pc 103 then en (.iload_n 2) 0 0 0 0 else none) else
(bif Nat.beq pc 104 then en (.iconst 1) 0 0 0 0 else none)) else
(bif Nat.blt pc 108 then
(bif Nat.beq pc 105 then en (.invokevirtual 128) 174 0 1636 4305 else none) else
(bif Nat.beq pc 108 then en (.pop) 0 0 0 0 else none))))) else
(bif Nat.blt pc 123 then
(bif Nat.blt pc 115 then
(bif Nat.blt pc 113 then
(bif Nat.blt pc 112 then
(bif Nat.beq pc 109 then en (.goto 28) 137 0 0 0 else none) else
(bif Nat.beq pc 112 then en (.aload_n 0) 0 0 0 0 else none)) else
(bif Nat.blt pc 114 then
(bif Nat.beq pc 113 then en (.iload_n 2) 0 0 0 0 else none) else
(bif Nat.beq pc 114 then en (.iconst 0) 0 0 0 0 else none))) else
(bif Nat.blt pc 119 then
(bif Nat.blt pc 118 then
(bif Nat.beq pc 115 then en (.invokevirtual 128) 174 0 1636 4305 else none) else
(bif Nat.beq pc 118 then en (.pop) 0 0 0 0 else none)) else
(bif Nat.blt pc 122 then
(bif Nat.beq pc 119 then en (.goto 18) 137 0 0 0 else none) else
(bif Nat.beq pc 122 then en (.aload_n 0) 0 0 0 0 else none)))) else
(bif Nat.blt pc 131 then
(bif Nat.blt pc 127 then
(bif Nat.blt pc 124 then
(bif Nat.beq pc 123 then en (.iload_n 2) 0 0 0 0 else none) else
(bif Nat.beq pc 124 then en (.invokevirtual 135) 177 0 1656 4605 else none)) else
(bif Nat.blt pc 128 then
(bif Nat.beq pc 127 then en (.pop) 0 0 0 0 else none) else
(bif Nat.beq pc 128 then en (.goto 9) 137 0 0 0 else none))) else
(bif Nat.blt pc 133 then
(bif Nat.blt pc 132 then
(bif Nat.beq pc 131 then en (.aload_n 0) 0 0 0 0 else none) else
(bif Nat.beq pc 132 then en (.iload_n 2) 0 0 0 0 else none)) else
(bif Nat.blt pc 136 then
(bif Nat.beq pc 133 then en (.invokevirtual 177) 187 0 1668 4805 else none) else
(bif Nat.blt pc 137 then
(bif Nat.beq pc 136 then en (.pop) 0 0 0 0 else none) else
(bif Nat.beq pc 137 then en (.return_) 0 0 0 0 else none)))))))) else none
/-- SingleTrackLineModel.run()I -/
def mc233 (pc : Nat) : Option En := bif Nat.blt pc 189 then (bif Nat.blt pc 96 then
(bif Nat.blt pc 43 then
(bif Nat.blt pc 22 then
(bif Nat.blt pc 12 then
(bif Nat.blt pc 5 then
(bif Nat.blt pc 1 then
(bif Nat.beq pc 0 then en (.aload_n 0) 0 0 0 0 else none) else
(bif Nat.blt pc 4 then
(bif Nat.beq pc 1 then en (.invokevirtual 99) 152 0 1571 3205 else none) else
(bif Nat.beq pc 4 then en (.aload_n 0) 0 0 0 0 else none))) else
(bif Nat.blt pc 6 then
(bif Nat.beq pc 5 then en (.aload_n 0) 0 0 0 0 else none) else
(bif Nat.blt pc 9 then
(bif Nat.beq pc 6 then en (.getfield 201) 5 11 1504 0 else none) else
(bif Nat.beq pc 9 then en (.putfield 207) 5 19 1512 0 else none)))) else
(bif Nat.blt pc 17 then
(bif Nat.blt pc 13 then
(bif Nat.beq pc 12 then en (.aload_n 0) 0 0 0 0 else none) else
(bif Nat.blt pc 14 then
(bif Nat.beq pc 13 then en (.iconst 0) 0 0 0 0 else none) else
(bif Nat.beq pc 14 then en (.putfield 201) 5 11 1504 0 else none))) else
(bif Nat.blt pc 18 then
(bif Nat.beq pc 17 then en (.aload_n 0) 0 0 0 0 else none) else
(bif Nat.blt pc 19 then
(bif Nat.beq pc 18 then en (.iconst 0) 0 0 0 0 else none) else
(bif Nat.beq pc 19 then en (.putfield 204) 5 18 1511 0 else none))))) else
(bif Nat.blt pc 32 then
(bif Nat.blt pc 27 then
(bif Nat.blt pc 23 then
(bif Nat.beq pc 22 then en (.aload_n 0) 0 0 0 0 else none) else
(bif Nat.blt pc 24 then
(bif Nat.beq pc 23 then en (.iconst 0) 0 0 0 0 else none) else
(bif Nat.beq pc 24 then en (.putfield 230) 5 17 1510 0 else none))) else
(bif Nat.blt pc 28 then
(bif Nat.beq pc 27 then en (.aload_n 0) 0 0 0 0 else none) else
(bif Nat.blt pc 29 then
(bif Nat.beq pc 28 then en (.iconst 0) 0 0 0 0 else none) else
(bif Nat.beq pc 29 then en (.putfield 210) 5 20 1513 0 else none)))) else
(bif Nat.blt pc 35 then
(bif Nat.blt pc 33 then
(bif Nat.beq pc 32 then en (.iconst 1) 0 0 0 0 else none) else
(bif Nat.blt pc 34 then
(bif Nat.beq pc 33 then en (.istore_n 1) 0 0 0 0 else none) else
(bif Nat.beq pc 34 then en (.iload_n 1) 0 0 0 0 else none))) else
(bif Nat.blt pc 39 then
(bif Nat.blt pc 38 then
(bif Nat.beq pc 35 then en (.ifCond .eq 57) 92 0 0 0 else none) else
(bif Nat.beq pc 38 then en (.aload_n 0) 0 0 0 0 else none)) else
(bif Nat.blt pc 42 then
(bif Nat.beq pc 39 then en (.invokevirtual 239) 231 0 1877 6705 else none) else
(bif Nat.beq pc 42 then en (.aload_n 0) 0 0 0 0 else none)))))) else
(bif Nat.blt pc 70 then
(bif Nat.blt pc 57 then
(bif Nat.blt pc 50 then
(bif Nat.blt pc 46 then
(bif Nat.beq pc 43 then en (.getfield 210) 5 20 1513 0 else none) else
(bif Nat.blt pc 49 then
(bif Nat.beq pc 46 then en (.ifCond .ne 18) 64 0 0 0 else none) else
(bif Nat.beq pc 49 then en (.aload_n 0) 0 0 0 0 else none))) else
(bif Nat.blt pc 53 then
(bif Nat.beq pc 50 then en (.getfield 204) 5 18 1511 0 else none) else
(bif Nat.blt pc 54 then
(bif Nat.beq pc 53 then en (.aload_n 0) 0 0 0 0 else none) else
(bif Nat.beq pc 54 then en (.getfield 207) 5 19 1512 0 else none)))) else
(bif Nat.blt pc 64 then
(bif Nat.blt pc 60 then
(bif Nat.beq pc 57 then en (.if_icmp .ge 7) 64 0 0 0 else none) else
(bif Nat.blt pc 61 then
(bif Nat.beq pc 60 then en (.iconst 1) 0 0 0 0 else none) else
(bif Nat.beq pc 61 then en (.goto 4) 65 0 0 0 else none))) else
(bif Nat.blt pc 66 then
(bif Nat.blt pc 65 then
(bif Nat.beq pc 64 then en (.iconst 0) 0 0 0 0 else none) else
(bif Nat.beq pc 65 then en (.istore_n 1) 0 0 0 0 else none)) else
(bif Nat.blt pc 67 then
(bif Nat.beq pc 66 then en (.iload_n 1) 0 0 0 0 else none) else
(bif Nat.beq pc 67 then en (.ifCond .eq (-33)) 34 0 0 0 else none))))) else
(bif Nat.blt pc 83 then
(bif Nat.blt pc 76 then
(bif Nat.blt pc 71 then
(bif Nat.beq pc 70 then en (.aload_n 0) 0 0 0 0 else none) else
(bif Nat.blt pc 73 then
(bif Nat.beq pc 71 then en (.bipush 59) 0 0 0 0 else none) else
(bif Nat.beq pc 73 then en (.invokevirtual 227) 226 0 1903 7305 else none))) else
(bif Nat.blt pc 77 then
(bif Nat.beq pc 76 then en (.aload_n 0) 0 0 0 0 else none) else
(bif Nat.blt pc 80 then
(bif Nat.beq pc 77 then en (.getfield 210) 5 20 1513 0 else none) else
(bif Nat.beq pc 80 then en (.ifCond .ne 7) 87 0 0 0 else none)))) else
(bif Nat.blt pc 88 then
(bif Nat.blt pc 84 then
(bif Nat.beq pc 83 then en (.iconst 1) 0 0 0 0 else none) else
(bif Nat.blt pc 87 then
(bif Nat.beq pc 84 then en (.goto 4) 88 0 0 0 else none) else
(bif Nat.beq pc 87 then en (.iconst 0) 0 0 0 0 else none))) else
(bif Nat.blt pc 92 then
(bif Nat.blt pc 89 then
(bif Nat.beq pc 88 then en (.istore_n 1) 0 0 0 0 else none) else
(bif Nat.beq pc 89 then en (.goto (-55)) 34 0 0 0 else none)) else
(bif Nat.blt pc 93 then
(bif Nat.beq pc 92 then en (.aload_n 0) 0 0 0 0 else none) else
(bif Nat.beq pc 93 then en (.getfield 210) 5 20 1513 0 else none))))))) else
(bif Nat.blt pc 140 then
(bif Nat.blt pc 117 then
(bif Nat.blt pc 108 then
(bif Nat.blt pc 101 then
(bif Nat.blt pc 99 then
(bif Nat.beq pc 96 then en (.ifCond .eq 17) 113 0 0 0 else none) else
(bif Nat.blt pc 100 then
(bif Nat.beq pc 99 then en (.aload_n 0) 0 0 0 0 else none) else
(bif Nat.beq pc 100 then en (.aload_n 0) 0 0 0 0 else none))) else
(bif Nat.blt pc 104 then
(bif Nat.beq pc 101 then en (.getfield 204) 5 18 1511 0 else none) else
(bif Nat.blt pc 107 then
(bif Nat.beq pc 104 then en (.putfield 25) 5 7 1500 0 else none) else
(bif Nat.beq pc 107 then en (.aload_n 0) 0 0 0 0 else none)))) else
(bif Nat.blt pc 113 then
(bif Nat.blt pc 109 then
(bif Nat.beq pc 108 then en (.iconst 1) 0 0 0 0 else none) else
(bif Nat.blt pc 112 then
(bif Nat.beq pc 109 then en (.invokevirtual 96) 150 0 1584 3405 else none) else
(bif Nat.beq pc 112 then en (.ireturn) 0 0 0 0 else none))) else
(bif Nat.blt pc 115 then
(bif Nat.blt pc 114 then
(bif Nat.beq pc 113 then en (.iconst 0) 0 0 0 0 else none) else
(bif Nat.beq pc 114 then en (.istore_n 2) 0 0 0 0 else none)) else
(bif Nat.blt pc 116 then
(bif Nat.beq pc 115 then en (.iload_n 2) 0 0 0 0 else none) else
(bif Nat.beq pc 116 then en (.aload_n 0) 0 0 0 0 else none))))) else
(bif Nat.blt pc 127 then
(bif Nat.blt pc 124 then
(bif Nat.blt pc 120 then
(bif Nat.beq pc 117 then en (.getfield 230) 5 17 1510 0 else none) else
(bif Nat.blt pc 123 then
(bif Nat.beq pc 120 then en (.if_icmp .ge 60) 180 0 0 0 else none) else
(bif Nat.beq pc 123 then en (.aload_n 0) 0 0 0 0 else none))) else
(bif Nat.blt pc 125 then
(bif Nat.beq pc 124 then en (.iconst 4) 0 0 0 0 else none) else
(bif Nat.blt pc 126 then
(bif Nat.beq pc 125 then en (.iload_n 2) 0 0 0 0 else none) else
(bif Nat.beq pc 126 then en (.imul) 0 0 0 0 else none)))) else
(bif Nat.blt pc 134 then
(bif Nat.blt pc 130 then
(bif Nat.beq pc 127 then en (.invokevirtual 242) 232 0 1907 7405 else none) else
(bif Nat.blt pc 131 then
(bif Nat.beq pc 130 then en (.aload_n 0) 0 0 0 0 else none) else
(bif Nat.beq pc 131 then en (.getfield 51) 5 9 1502 0 else none))) else
(bif Nat.blt pc 138 then
(bif Nat.blt pc 137 then
(bif Nat.beq pc 134 then en (.ifCond .le 40) 174 0 0 0 else none) else
(bif Nat.beq pc 137 then en (.iconst 0) 0 0 0 0 else none)) else
(bif Nat.blt pc 139 then
(bif Nat.beq pc 138 then en (.istore_n 3) 0 0 0 0 else none) else
(bif Nat.beq pc 139 then en (.iload_n 3) 0 0 0 0 else none)))))) else
(bif Nat.blt pc 164 then
(bif Nat.blt pc 151 then
(bif Nat.blt pc 146 then
(bif Nat.blt pc 142 then
(bif Nat.beq pc 140 then en (.bipush 76) 0 0 0 0 else none) else
(bif Nat.blt pc 145 then
(bif Nat.beq pc 142 then en (.if_icmp .ge 21) 163 0 0 0 else none) else
(bif Nat.beq pc 145 then en (.aload_n 0) 0 0 0 0 else none))) else
(bif Nat.blt pc 149 then
(bif Nat.beq pc 146 then en (.getfield 9) 5 0 1493 0 else none) else
(bif Nat.blt pc 150 then
(bif Nat.beq pc 149 then en (.iload_n 3) 0 0 0 0 else none) else
(bif Nat.beq pc 150 then en (.aload_n 0) 0 0 0 0 else none)))) else
(bif Nat.blt pc 156 then
(bif Nat.blt pc 154 then
(bif Nat.beq pc 151 then en (.getfield 13) 5 1 1494 0 else none) else
(bif Nat.blt pc 155 then
(bif Nat.beq pc 154 then en (.iload_n 3) 0 0 0 0 else none) else
(bif Nat.beq pc 155 then en (.iaload) 0 0 0 0 else none))) else
(bif Nat.blt pc 160 then
(bif Nat.blt pc 157 then
(bif Nat.beq pc 156 then en (.iastore) 0 0 0 0 else none) else
(bif Nat.beq pc 157 then en (.iinc 3 1) 0 0 0 0 else none)) else
(bif Nat.blt pc 163 then
(bif Nat.beq pc 160 then en (.goto (-21)) 139 0 0 0 else none) else
(bif Nat.beq pc 163 then en (.aload_n 0) 0 0 0 0 else none))))) else
(bif Nat.blt pc 174 then
(bif Nat.blt pc 169 then
(bif Nat.blt pc 165 then
(bif Nat.beq pc 164 then en (.iload_n 2) 0 0 0 0 else none) else
(bif Nat.blt pc 168 then
(bif Nat.beq pc 165 then en (.putfield 29) 5 8 1501 0 else none) else
(bif Nat.beq pc 168 then en (.aload_n 0) 0 0 0 0 else none))) else
(bif Nat.blt pc 170 then
(bif Nat.beq pc 169 then en (.iconst 2) 0 0 0 0 else none) else
(bif Nat.blt pc 173 then
(bif Nat.beq pc 170 then en (.invokevirtual 96) 150 0 1584 3405 else none) else
(bif Nat.beq pc 173 then en (.ireturn) 0 0 0 0 else none)))) else
(bif Nat.blt pc 181 then
(bif Nat.blt pc 177 then
(bif Nat.beq pc 174 then en (.iinc 2 1) 0 0 0 0 else none) else
(bif Nat.blt pc 180 then
(bif Nat.beq pc 177 then en (.goto (-62)) 115 0 0 0 else none) else
(bif Nat.beq pc 180 then en (.aload_n 0) 0 0 0 0 else none))) else
(bif Nat.blt pc 185 then
(bif Nat.blt pc 182 then
(bif Nat.beq pc 181 then en (.aload_n 0) 0 0 0 0 else none) else
(bif Nat.beq pc 182 then en (.getfield 230) 5 17 1510 0 else none)) else
(bif Nat.blt pc 188 then
(bif Nat.beq pc 185 then en (.invokevirtual 105) 153 0 1588 3505 else none) else
(bif Nat.beq pc 188 then en (.ireturn) 0 0 0 0 else none)))))))) else none
/-- SingleTrackLineModel.errorPosition()I -/
def mc234 (pc : Nat) : Option En := bif Nat.blt pc 26 then (bif Nat.blt pc 13 then
(bif Nat.blt pc 5 then
(bif Nat.blt pc 1 then
(bif Nat.beq pc 0 then en (.aload_n 0) 0 0 0 0 else none) else
(bif Nat.blt pc 2 then
(bif Nat.beq pc 1 then en (.iconst 0) 0 0 0 0 else none) else
(bif Nat.beq pc 2 then en (.putfield 51) 5 9 1502 0 else none))) else
(bif Nat.blt pc 9 then
(bif Nat.blt pc 6 then
(bif Nat.beq pc 5 then en (.aload_n 0) 0 0 0 0 else none) else
(bif Nat.beq pc 6 then en (.getfield 25) 5 7 1500 0 else none)) else
(bif Nat.blt pc 10 then
(bif Nat.beq pc 9 then en (.iconst (-1)) 0 0 0 0 else none) else
(bif Nat.beq pc 10 then en (.if_icmp .ne 11) 21 0 0 0 else none)))) else
(bif Nat.blt pc 18 then
(bif Nat.blt pc 14 then
(bif Nat.beq pc 13 then en (.aload_n 0) 0 0 0 0 else none) else
(bif Nat.blt pc 15 then
(bif Nat.beq pc 14 then en (.iconst 1) 0 0 0 0 else none) else
(bif Nat.beq pc 15 then en (.invokevirtual 96) 150 0 1584 3405 else none))) else
(bif Nat.blt pc 22 then
(bif Nat.blt pc 21 then
(bif Nat.beq pc 18 then en (.goto 7) 25 0 0 0 else none) else
(bif Nat.beq pc 21 then en (.aload_n 0) 0 0 0 0 else none)) else
(bif Nat.blt pc 25 then
(bif Nat.beq pc 22 then en (.getfield 25) 5 7 1500 0 else none) else
(bif Nat.beq pc 25 then en (.ireturn) 0 0 0 0 else none))))) else none
/-- SingleTrackLineModel.failedCommand()I -/
def mc235 (pc : Nat) : Option En := bif Nat.blt pc 26 then (bif Nat.blt pc 13 then
(bif Nat.blt pc 5 then
(bif Nat.blt pc 1 then
(bif Nat.beq pc 0 then en (.aload_n 0) 0 0 0 0 else none) else
(bif Nat.blt pc 2 then
(bif Nat.beq pc 1 then en (.iconst 0) 0 0 0 0 else none) else
(bif Nat.beq pc 2 then en (.putfield 51) 5 9 1502 0 else none))) else
(bif Nat.blt pc 9 then
(bif Nat.blt pc 6 then
(bif Nat.beq pc 5 then en (.aload_n 0) 0 0 0 0 else none) else
(bif Nat.beq pc 6 then en (.getfield 29) 5 8 1501 0 else none)) else
(bif Nat.blt pc 10 then
(bif Nat.beq pc 9 then en (.iconst (-1)) 0 0 0 0 else none) else
(bif Nat.beq pc 10 then en (.if_icmp .ne 11) 21 0 0 0 else none)))) else
(bif Nat.blt pc 18 then
(bif Nat.blt pc 14 then
(bif Nat.beq pc 13 then en (.aload_n 0) 0 0 0 0 else none) else
(bif Nat.blt pc 15 then
(bif Nat.beq pc 14 then en (.iconst 1) 0 0 0 0 else none) else
(bif Nat.beq pc 15 then en (.invokevirtual 96) 150 0 1584 3405 else none))) else
(bif Nat.blt pc 22 then
(bif Nat.blt pc 21 then
(bif Nat.beq pc 18 then en (.goto 7) 25 0 0 0 else none) else
(bif Nat.beq pc 21 then en (.aload_n 0) 0 0 0 0 else none)) else
(bif Nat.blt pc 25 then
(bif Nat.beq pc 22 then en (.getfield 29) 5 8 1501 0 else none) else
(bif Nat.beq pc 25 then en (.ireturn) 0 0 0 0 else none))))) else none
/-- SingleTrackLineModel.sign(I)V -/
def mc236 (pc : Nat) : Option En := bif Nat.blt pc 21 then (bif Nat.blt pc 10 then
(bif Nat.blt pc 5 then
(bif Nat.blt pc 1 then
(bif Nat.beq pc 0 then en (.aload_n 0) 0 0 0 0 else none) else
(bif Nat.blt pc 4 then
(bif Nat.beq pc 1 then en (.getfield 48) 5 21 1514 0 else none) else
(bif Nat.beq pc 4 then en (.aload_n 0) 0 0 0 0 else none))) else
(bif Nat.blt pc 8 then
(bif Nat.beq pc 5 then en (.getfield 245) 5 22 1515 0 else none) else
(bif Nat.blt pc 9 then
(bif Nat.beq pc 8 then en (.iload_n 1) 0 0 0 0 else none) else
(bif Nat.beq pc 9 then en (.iastore) 0 0 0 0 else none)))) else
(bif Nat.blt pc 15 then
(bif Nat.blt pc 11 then
(bif Nat.beq pc 10 then en (.aload_n 0) 0 0 0 0 else none) else
(bif Nat.blt pc 12 then
(bif Nat.beq pc 11 then en (.dup) 0 0 0 0 else none) else
(bif Nat.beq pc 12 then en (.getfield 245) 5 22 1515 0 else none))) else
(bif Nat.blt pc 17 then
(bif Nat.blt pc 16 then
(bif Nat.beq pc 15 then en (.iconst 1) 0 0 0 0 else none) else
(bif Nat.beq pc 16 then en (.iadd) 0 0 0 0 else none)) else
(bif Nat.blt pc 20 then
(bif Nat.beq pc 17 then en (.putfield 245) 5 22 1515 0 else none) else
(bif Nat.beq pc 20 then en (.return_) 0 0 0 0 else none))))) else none
/-- SingleTrackLineModel.writesNumber(I)V -/
def mc237 (pc : Nat) : Option En := bif Nat.blt pc 44 then (bif Nat.blt pc 22 then
(bif Nat.blt pc 10 then
(bif Nat.blt pc 3 then
(bif Nat.blt pc 1 then
(bif Nat.beq pc 0 then en (.iconst 1) 0 0 0 0 else none) else
(bif Nat.blt pc 2 then
(bif Nat.beq pc 1 then en (.istore_n 2) 0 0 0 0 else none) else
(bif Nat.beq pc 2 then en (.iload_n 1) 0 0 0 0 else none))) else
(bif Nat.blt pc 5 then
(bif Nat.blt pc 4 then
(bif Nat.beq pc 3 then en (.iload_n 2) 0 0 0 0 else none) else
(bif Nat.beq pc 4 then en (.idiv) 0 0 0 0 else none)) else
(bif Nat.blt pc 7 then
(bif Nat.beq pc 5 then en (.bipush 9) 0 0 0 0 else none) else
(bif Nat.beq pc 7 then en (.if_icmp .le 11) 18 0 0 0 else none)))) else
(bif Nat.blt pc 14 then
(bif Nat.blt pc 11 then
(bif Nat.beq pc 10 then en (.iload_n 2) 0 0 0 0 else none) else
(bif Nat.blt pc 13 then
(bif Nat.beq pc 11 then en (.bipush 10) 0 0 0 0 else none) else
(bif Nat.beq pc 13 then en (.imul) 0 0 0 0 else none))) else
(bif Nat.blt pc 18 then
(bif Nat.blt pc 15 then
(bif Nat.beq pc 14 then en (.istore_n 2) 0 0 0 0 else none) else
(bif Nat.beq pc 15 then en (.goto (-13)) 2 0 0 0 else none)) else
(bif Nat.blt pc 19 then
(bif Nat.beq pc 18 then en (.iload_n 2) 0 0 0 0 else none) else
(bif Nat.beq pc 19 then en (.ifCond .le 24) 43 0 0 0 else none))))) else
(bif Nat.blt pc 31 then
(bif Nat.blt pc 26 then
(bif Nat.blt pc 23 then
(bif Nat.beq pc 22 then en (.aload_n 0) 0 0 0 0 else none) else
(bif Nat.blt pc 25 then
(bif Nat.beq pc 23 then en (.bipush 48) 0 0 0 0 else none) else
(bif Nat.beq pc 25 then en (.iload_n 1) 0 0 0 0 else none))) else
(bif Nat.blt pc 28 then
(bif Nat.blt pc 27 then
(bif Nat.beq pc 26 then en (.iload_n 2) 0 0 0 0 else none) else
(bif Nat.beq pc 27 then en (.idiv) 0 0 0 0 else none)) else
(bif Nat.blt pc 30 then
(bif Nat.beq pc 28 then en (.bipush 10) 0 0 0 0 else none) else
(bif Nat.beq pc 30 then en (.irem) 0 0 0 0 else none)))) else
(bif Nat.blt pc 38 then
(bif Nat.blt pc 35 then
(bif Nat.blt pc 32 then
(bif Nat.beq pc 31 then en (.iadd) 0 0 0 0 else none) else
(bif Nat.beq pc 32 then en (.invokevirtual 248) 236 0 1923 7505 else none)) else
(bif Nat.blt pc 36 then
(bif Nat.beq pc 35 then en (.iload_n 2) 0 0 0 0 else none) else
(bif Nat.beq pc 36 then en (.bipush 10) 0 0 0 0 else none))) else
(bif Nat.blt pc 40 then
(bif Nat.blt pc 39 then
(bif Nat.beq pc 38 then en (.idiv) 0 0 0 0 else none) else
(bif Nat.beq pc 39 then en (.istore_n 2) 0 0 0 0 else none)) else
(bif Nat.blt pc 43 then
(bif Nat.beq pc 40 then en (.goto (-22)) 18 0 0 0 else none) else
(bif Nat.beq pc 43 then en (.return_) 0 0 0 0 else none)))))) else none
/-- SingleTrackLineModel.writeLine()I -/
def mc238 (pc : Nat) : Option En := bif Nat.blt pc 185 then (bif Nat.blt pc 83 then
(bif Nat.blt pc 38 then
(bif Nat.blt pc 18 then
(bif Nat.blt pc 10 then
(bif Nat.blt pc 5 then
(bif Nat.blt pc 1 then
(bif Nat.beq pc 0 then en (.aload_n 0) 0 0 0 0 else none) else
(bif Nat.blt pc 2 then
(bif Nat.beq pc 1 then en (.iconst 0) 0 0 0 0 else none) else
(bif Nat.beq pc 2 then en (.putfield 51) 5 9 1502 0 else none))) else
(bif Nat.blt pc 6 then
(bif Nat.beq pc 5 then en (.aload_n 0) 0 0 0 0 else none) else
(bif Nat.blt pc 7 then
(bif Nat.beq pc 6 then en (.iconst 0) 0 0 0 0 else none) else
(bif Nat.beq pc 7 then en (.putfield 245) 5 22 1515 0 else none)))) else
(bif Nat.blt pc 13 then
(bif Nat.blt pc 11 then
(bif Nat.beq pc 10 then en (.iconst 0) 0 0 0 0 else none) else
(bif Nat.blt pc 12 then
(bif Nat.beq pc 11 then en (.istore_n 1) 0 0 0 0 else none) else
(bif Nat.beq pc 12 then en (.iload_n 1) 0 0 0 0 else none))) else
(bif Nat.blt pc 14 then
(bif Nat.beq pc 13 then en (.aload_n 0) 0 0 0 0 else none) else
(bif Nat.blt pc 17 then
(bif Nat.beq pc 14 then en (.getfield 9) 5 0 1493 0 else none) else
(bif Nat.beq pc 17 then en (.iconst 0) 0 0 0 0 else none))))) else
(bif Nat.blt pc 29 then
(bif Nat.blt pc 23 then
(bif Nat.blt pc 19 then
(bif Nat.beq pc 18 then en (.iaload) 0 0 0 0 else none) else
(bif Nat.blt pc 22 then
(bif Nat.beq pc 19 then en (.if_icmp .ge 161) 180 0 0 0 else none) else
(bif Nat.beq pc 22 then en (.aload_n 0) 0 0 0 0 else none))) else
(bif Nat.blt pc 25 then
(bif Nat.beq pc 23 then en (.bipush 91) 0 0 0 0 else none) else
(bif Nat.blt pc 28 then
(bif Nat.beq pc 25 then en (.invokevirtual 248) 236 0 1923 7505 else none) else
(bif Nat.beq pc 28 then en (.iconst 0) 0 0 0 0 else none)))) else
(bif Nat.blt pc 32 then
(bif Nat.blt pc 30 then
(bif Nat.beq pc 29 then en (.istore_n 2) 0 0 0 0 else none) else
(bif Nat.blt pc 31 then
(bif Nat.beq pc 30 then en (.iconst 0) 0 0 0 0 else none) else
(bif Nat.beq pc 31 then en (.istore_n 3) 0 0 0 0 else none))) else
(bif Nat.blt pc 34 then
(bif Nat.blt pc 33 then
(bif Nat.beq pc 32 then en (.iload_n 3) 0 0 0 0 else none) else
(bif Nat.beq pc 33 then en (.aload_n 0) 0 0 0 0 else none)) else
(bif Nat.blt pc 37 then
(bif Nat.beq pc 34 then en (.getfield 9) 5 0 1493 0 else none) else
(bif Nat.beq pc 37 then en (.iconst 1) 0 0 0 0 else none)))))) else
(bif Nat.blt pc 61 then
(bif Nat.blt pc 50 then
(bif Nat.blt pc 43 then
(bif Nat.blt pc 39 then
(bif Nat.beq pc 38 then en (.iaload) 0 0 0 0 else none) else
(bif Nat.blt pc 42 then
(bif Nat.beq pc 39 then en (.if_icmp .ge 65) 104 0 0 0 else none) else
(bif Nat.beq pc 42 then en (.aload_n 0) 0 0 0 0 else none))) else
(bif Nat.blt pc 46 then
(bif Nat.beq pc 43 then en (.getfield 9) 5 0 1493 0 else none) else
(bif Nat.blt pc 47 then
(bif Nat.beq pc 46 then en (.iload_n 3) 0 0 0 0 else none) else
(bif Nat.beq pc 47 then en (.invokestatic 61) 154 1 1612 0 else none)))) else
(bif Nat.blt pc 53 then
(bif Nat.blt pc 51 then
(bif Nat.beq pc 50 then en (.iconst 4) 0 0 0 0 else none) else
(bif Nat.blt pc 52 then
(bif Nat.beq pc 51 then en (.iadd) 0 0 0 0 else none) else
(bif Nat.beq pc 52 then en (.iaload) 0 0 0 0 else none))) else
(bif Nat.blt pc 57 then
(bif Nat.blt pc 54 then
(bif Nat.beq pc 53 then en (.iconst 1) 0 0 0 0 else none) else
(bif Nat.beq pc 54 then en (.if_icmp .ne 44) 98 0 0 0 else none)) else
(bif Nat.blt pc 58 then
(bif Nat.beq pc 57 then en (.aload_n 0) 0 0 0 0 else none) else
(bif Nat.beq pc 58 then en (.getfield 9) 5 0 1493 0 else none))))) else
(bif Nat.blt pc 69 then
(bif Nat.blt pc 66 then
(bif Nat.blt pc 62 then
(bif Nat.beq pc 61 then en (.iload_n 3) 0 0 0 0 else none) else
(bif Nat.blt pc 65 then
(bif Nat.beq pc 62 then en (.invokestatic 61) 154 1 1612 0 else none) else
(bif Nat.beq pc 65 then en (.iconst 5) 0 0 0 0 else none))) else
(bif Nat.blt pc 67 then
(bif Nat.beq pc 66 then en (.iadd) 0 0 0 0 else none) else
(bif Nat.blt pc 68 then
(bif Nat.beq pc 67 then en (.iaload) 0 0 0 0 else none) else
(bif Nat.beq pc 68 then en (.iload_n 1) 0 0 0 0 else none)))) else
(bif Nat.blt pc 76 then
(bif Nat.blt pc 72 then
(bif Nat.beq pc 69 then en (.if_icmp .ne 29) 98 0 0 0 else none) else
(bif Nat.blt pc 73 then
(bif Nat.beq pc 72 then en (.iload_n 2) 0 0 0 0 else none) else
(bif Nat.beq pc 73 then en (.ifCond .le 9) 82 0 0 0 else none))) else
(bif Nat.blt pc 79 then
(bif Nat.blt pc 77 then
(bif Nat.beq pc 76 then en (.aload_n 0) 0 0 0 0 else none) else
(bif Nat.beq pc 77 then en (.bipush 44) 0 0 0 0 else none)) else
(bif Nat.blt pc 82 then
(bif Nat.beq pc 79 then en (.invokevirtual 248) 236 0 1923 7505 else none) else
(bif Nat.beq pc 82 then en (.aload_n 0) 0 0 0 0 else none))))))) else
(bif Nat.blt pc 130 then
(bif Nat.blt pc 111 then
(bif Nat.blt pc 95 then
(bif Nat.blt pc 88 then
(bif Nat.blt pc 84 then
(bif Nat.beq pc 83 then en (.aload_n 0) 0 0 0 0 else none) else
(bif Nat.blt pc 87 then
(bif Nat.beq pc 84 then en (.getfield 9) 5 0 1493 0 else none) else
(bif Nat.beq pc 87 then en (.iload_n 3) 0 0 0 0 else none))) else
(bif Nat.blt pc 91 then
(bif Nat.beq pc 88 then en (.invokestatic 61) 154 1 1612 0 else none) else
(bif Nat.blt pc 92 then
(bif Nat.beq pc 91 then en (.iaload) 0 0 0 0 else none) else
(bif Nat.beq pc 92 then en (.invokevirtual 251) 237 0 1927 7605 else none)))) else
(bif Nat.blt pc 104 then
(bif Nat.blt pc 98 then
(bif Nat.beq pc 95 then en (.iinc 2 1) 0 0 0 0 else none) else
(bif Nat.blt pc 101 then
(bif Nat.beq pc 98 then en (.iinc 3 1) 0 0 0 0 else none) else
(bif Nat.beq pc 101 then en (.goto (-69)) 32 0 0 0 else none))) else
(bif Nat.blt pc 107 then
(bif Nat.blt pc 105 then
(bif Nat.beq pc 104 then en (.aload_n 0) 0 0 0 0 else none) else
(bif Nat.beq pc 105 then en (.bipush 93) 0 0 0 0 else none)) else
(bif Nat.blt pc 110 then
(bif Nat.beq pc 107 then en (.invokevirtual 248) 236 0 1923 7505 else none) else
(bif Nat.beq pc 110 then en (.iload_n 1) 0 0 0 0 else none))))) else
(bif Nat.blt pc 119 then
(bif Nat.blt pc 116 then
(bif Nat.blt pc 112 then
(bif Nat.beq pc 111 then en (.aload_n 0) 0 0 0 0 else none) else
(bif Nat.blt pc 115 then
(bif Nat.beq pc 112 then en (.getfield 9) 5 0 1493 0 else none) else
(bif Nat.beq pc 115 then en (.iconst 0) 0 0 0 0 else none))) else
(bif Nat.blt pc 117 then
(bif Nat.beq pc 116 then en (.iaload) 0 0 0 0 else none) else
(bif Nat.blt pc 118 then
(bif Nat.beq pc 117 then en (.iconst 1) 0 0 0 0 else none) else
(bif Nat.beq pc 118 then en (.isub) 0 0 0 0 else none)))) else
(bif Nat.blt pc 124 then
(bif Nat.blt pc 122 then
(bif Nat.beq pc 119 then en (.if_icmp .ge 55) 174 0 0 0 else none) else
(bif Nat.blt pc 123 then
(bif Nat.beq pc 122 then en (.aload_n 0) 0 0 0 0 else none) else
(bif Nat.beq pc 123 then en (.iload_n 1) 0 0 0 0 else none))) else
(bif Nat.blt pc 128 then
(bif Nat.blt pc 127 then
(bif Nat.beq pc 124 then en (.invokevirtual 144) 160 0 1681 5105 else none) else
(bif Nat.beq pc 127 then en (.istore_n 3) 0 0 0 0 else none)) else
(bif Nat.blt pc 129 then
(bif Nat.beq pc 128 then en (.iload_n 3) 0 0 0 0 else none) else
(bif Nat.beq pc 129 then en (.iconst (-1)) 0 0 0 0 else none)))))) else
(bif Nat.blt pc 158 then
(bif Nat.blt pc 143 then
(bif Nat.blt pc 136 then
(bif Nat.blt pc 133 then
(bif Nat.beq pc 130 then en (.if_icmp .ne 12) 142 0 0 0 else none) else
(bif Nat.blt pc 134 then
(bif Nat.beq pc 133 then en (.aload_n 0) 0 0 0 0 else none) else
(bif Nat.beq pc 134 then en (.bipush 45) 0 0 0 0 else none))) else
(bif Nat.blt pc 139 then
(bif Nat.beq pc 136 then en (.invokevirtual 248) 236 0 1923 7505 else none) else
(bif Nat.blt pc 142 then
(bif Nat.beq pc 139 then en (.goto 35) 174 0 0 0 else none) else
(bif Nat.beq pc 142 then en (.aload_n 0) 0 0 0 0 else none)))) else
(bif Nat.blt pc 148 then
(bif Nat.blt pc 144 then
(bif Nat.beq pc 143 then en (.aload_n 0) 0 0 0 0 else none) else
(bif Nat.blt pc 145 then
(bif Nat.beq pc 144 then en (.iload_n 3) 0 0 0 0 else none) else
(bif Nat.beq pc 145 then en (.invokevirtual 65) 158 0 1619 4105 else none))) else
(bif Nat.blt pc 153 then
(bif Nat.blt pc 151 then
(bif Nat.beq pc 148 then en (.ifCond .le 8) 156 0 0 0 else none) else
(bif Nat.beq pc 151 then en (.bipush 62) 0 0 0 0 else none)) else
(bif Nat.blt pc 156 then
(bif Nat.beq pc 153 then en (.goto 5) 158 0 0 0 else none) else
(bif Nat.beq pc 156 then en (.bipush 60) 0 0 0 0 else none))))) else
(bif Nat.blt pc 170 then
(bif Nat.blt pc 163 then
(bif Nat.blt pc 161 then
(bif Nat.beq pc 158 then en (.invokevirtual 248) 236 0 1923 7505 else none) else
(bif Nat.blt pc 162 then
(bif Nat.beq pc 161 then en (.aload_n 0) 0 0 0 0 else none) else
(bif Nat.beq pc 162 then en (.aload_n 0) 0 0 0 0 else none))) else
(bif Nat.blt pc 166 then
(bif Nat.beq pc 163 then en (.getfield 9) 5 0 1493 0 else none) else
(bif Nat.blt pc 167 then
(bif Nat.beq pc 166 then en (.iload_n 3) 0 0 0 0 else none) else
(bif Nat.beq pc 167 then en (.invokestatic 61) 154 1 1612 0 else none)))) else
(bif Nat.blt pc 177 then
(bif Nat.blt pc 171 then
(bif Nat.beq pc 170 then en (.iaload) 0 0 0 0 else none) else
(bif Nat.blt pc 174 then
(bif Nat.beq pc 171 then en (.invokevirtual 251) 237 0 1927 7605 else none) else
(bif Nat.beq pc 174 then en (.iinc 1 1) 0 0 0 0 else none))) else
(bif Nat.blt pc 181 then
(bif Nat.blt pc 180 then
(bif Nat.beq pc 177 then en (.goto (-165)) 12 0 0 0 else none) else
(bif Nat.beq pc 180 then en (.aload_n 0) 0 0 0 0 else none)) else
(bif Nat.blt pc 184 then
(bif Nat.beq pc 181 then en (.getfield 245) 5 22 1515 0 else none) else
(bif Nat.beq pc 184 then en (.ireturn) 0 0 0 0 else none)))))))) else none
/-- SingleTrackLineModel.writeTrain(I)I -/
def mc239 (pc : Nat) : Option En := bif Nat.blt pc 148 then (bif Nat.blt pc 72 then
(bif Nat.blt pc 36 then
(bif Nat.blt pc 19 then
(bif Nat.blt pc 7 then
(bif Nat.blt pc 2 then
(bif Nat.blt pc 1 then
(bif Nat.beq pc 0 then en (.aload_n 0) 0 0 0 0 else none) else
(bif Nat.beq pc 1 then en (.iconst 0) 0 0 0 0 else none)) else
(bif Nat.blt pc 5 then
(bif Nat.beq pc 2 then en (.putfield 51) 5 9 1502 0 else none) else
(bif Nat.blt pc 6 then
(bif Nat.beq pc 5 then en (.aload_n 0) 0 0 0 0 else none) else
(bif Nat.beq pc 6 then en (.iload_n 1) 0 0 0 0 else none)))) else
(bif Nat.blt pc 14 then
(bif Nat.blt pc 10 then
(bif Nat.beq pc 7 then en (.invokevirtual 121) 157 0 1640 4405 else none) else
(bif Nat.blt pc 11 then
(bif Nat.beq pc 10 then en (.iconst (-1)) 0 0 0 0 else none) else
(bif Nat.beq pc 11 then en (.if_icmp .ne 9) 20 0 0 0 else none))) else
(bif Nat.blt pc 15 then
(bif Nat.beq pc 14 then en (.aload_n 0) 0 0 0 0 else none) else
(bif Nat.blt pc 16 then
(bif Nat.beq pc 15 then en (.iconst 1) 0 0 0 0 else none) else
(bif Nat.beq pc 16 then en (.invokevirtual 96) 150 0 1584 3405 else none))))) else
(bif Nat.blt pc 28 then
(bif Nat.blt pc 21 then
(bif Nat.blt pc 20 then
(bif Nat.beq pc 19 then en (.ireturn) 0 0 0 0 else none) else
(bif Nat.beq pc 20 then en (.aload_n 0) 0 0 0 0 else none)) else
(bif Nat.blt pc 22 then
(bif Nat.beq pc 21 then en (.iload_n 1) 0 0 0 0 else none) else
(bif Nat.blt pc 25 then
(bif Nat.beq pc 22 then en (.invokevirtual 121) 157 0 1640 4405 else none) else
(bif Nat.beq pc 25 then en (.invokestatic 61) 154 1 1612 0 else none)))) else
(bif Nat.blt pc 31 then
(bif Nat.blt pc 29 then
(bif Nat.beq pc 28 then en (.istore_n 2) 0 0 0 0 else none) else
(bif Nat.blt pc 30 then
(bif Nat.beq pc 29 then en (.aload_n 0) 0 0 0 0 else none) else
(bif Nat.beq pc 30 then en (.iconst 0) 0 0 0 0 else none))) else
(bif Nat.blt pc 34 then
(bif Nat.beq pc 31 then en (.putfield 245) 5 22 1515 0 else none) else
(bif Nat.blt pc 35 then
(bif Nat.beq pc 34 then en (.aload_n 0) 0 0 0 0 else none) else
(bif Nat.beq pc 35 then en (.iload_n 1) 0 0 0 0 else none)))))) else
(bif Nat.blt pc 54 then
(bif Nat.blt pc 46 then
(bif Nat.blt pc 40 then
(bif Nat.blt pc 39 then
(bif Nat.beq pc 36 then en (.invokevirtual 251) 237 0 1927 7605 else none) else
(bif Nat.beq pc 39 then en (.aload_n 0) 0 0 0 0 else none)) else
(bif Nat.blt pc 42 then
(bif Nat.beq pc 40 then en (.bipush 58) 0 0 0 0 else none) else
(bif Nat.blt pc 45 then
(bif Nat.beq pc 42 then en (.invokevirtual 248) 236 0 1923 7505 else none) else
(bif Nat.beq pc 45 then en (.aload_n 0) 0 0 0 0 else none)))) else
(bif Nat.blt pc 51 then
(bif Nat.blt pc 47 then
(bif Nat.beq pc 46 then en (.aload_n 0) 0 0 0 0 else none) else
(bif Nat.blt pc 50 then
(bif Nat.beq pc 47 then en (.getfield 9) 5 0 1493 0 else none) else
(bif Nat.beq pc 50 then en (.iload_n 2) 0 0 0 0 else none))) else
(bif Nat.blt pc 52 then
(bif Nat.beq pc 51 then en (.iconst 1) 0 0 0 0 else none) else
(bif Nat.blt pc 53 then
(bif Nat.beq pc 52 then en (.iadd) 0 0 0 0 else none) else
(bif Nat.beq pc 53 then en (.iaload) 0 0 0 0 else none))))) else
(bif Nat.blt pc 64 then
(bif Nat.blt pc 58 then
(bif Nat.blt pc 57 then
(bif Nat.beq pc 54 then en (.invokevirtual 251) 237 0 1927 7605 else none) else
(bif Nat.beq pc 57 then en (.aload_n 0) 0 0 0 0 else none)) else
(bif Nat.blt pc 60 then
(bif Nat.beq pc 58 then en (.bipush 62) 0 0 0 0 else none) else
(bif Nat.blt pc 63 then
(bif Nat.beq pc 60 then en (.invokevirtual 248) 236 0 1923 7505 else none) else
(bif Nat.beq pc 63 then en (.aload_n 0) 0 0 0 0 else none)))) else
(bif Nat.blt pc 69 then
(bif Nat.blt pc 65 then
(bif Nat.beq pc 64 then en (.aload_n 0) 0 0 0 0 else none) else
(bif Nat.blt pc 68 then
(bif Nat.beq pc 65 then en (.getfield 9) 5 0 1493 0 else none) else
(bif Nat.beq pc 68 then en (.iload_n 2) 0 0 0 0 else none))) else
(bif Nat.blt pc 70 then
(bif Nat.beq pc 69 then en (.iconst 2) 0 0 0 0 else none) else
(bif Nat.blt pc 71 then
(bif Nat.beq pc 70 then en (.iadd) 0 0 0 0 else none) else
(bif Nat.beq pc 71 then en (.iaload) 0 0 0 0 else none))))))) else
(bif Nat.blt pc 109 then
(bif Nat.blt pc 90 then
(bif Nat.blt pc 82 then
(bif Nat.blt pc 76 then
(bif Nat.blt pc 75 then
(bif Nat.beq pc 72 then en (.invokevirtual 251) 237 0 1927 7605 else none) else
(bif Nat.beq pc 75 then en (.aload_n 0) 0 0 0 0 else none)) else
(bif Nat.blt pc 78 then
(bif Nat.beq pc 76 then en (.bipush 64) 0 0 0 0 else none) else
(bif Nat.blt pc 81 then
(bif Nat.beq pc 78 then en (.invokevirtual 248) 236 0 1923 7505 else none) else
(bif Nat.beq pc 81 then en (.aload_n 0) 0 0 0 0 else none)))) else
(bif Nat.blt pc 87 then
(bif Nat.blt pc 83 then
(bif Nat.beq pc 82 then en (.aload_n 0) 0 0 0 0 else none) else
(bif Nat.blt pc 86 then
(bif Nat.beq pc 83 then en (.getfield 9) 5 0 1493 0 else none) else
(bif Nat.beq pc 86 then en (.iload_n 2) 0 0 0 0 else none))) else
(bif Nat.blt pc 88 then
(bif Nat.beq pc 87 then en (.iconst 3) 0 0 0 0 else none) else
(bif Nat.blt pc 89 then
(bif Nat.beq pc 88 then en (.iadd) 0 0 0 0 else none) else
(bif Nat.beq pc 89 then en (.iaload) 0 0 0 0 else none))))) else
(bif Nat.blt pc 100 then
(bif Nat.blt pc 94 then
(bif Nat.blt pc 93 then
(bif Nat.beq pc 90 then en (.invokevirtual 251) 237 0 1927 7605 else none) else
(bif Nat.beq pc 93 then en (.aload_n 0) 0 0 0 0 else none)) else
(bif Nat.blt pc 97 then
(bif Nat.beq pc 94 then en (.getfield 9) 5 0 1493 0 else none) else
(bif Nat.blt pc 98 then
(bif Nat.beq pc 97 then en (.iload_n 2) 0 0 0 0 else none) else
(bif Nat.beq pc 98 then en (.bipush 7) 0 0 0 0 else none)))) else
(bif Nat.blt pc 103 then
(bif Nat.blt pc 101 then
(bif Nat.beq pc 100 then en (.iadd) 0 0 0 0 else none) else
(bif Nat.blt pc 102 then
(bif Nat.beq pc 101 then en (.iaload) 0 0 0 0 else none) else
(bif Nat.beq pc 102 then en (.iconst 1) 0 0 0 0 else none))) else
(bif Nat.blt pc 106 then
(bif Nat.beq pc 103 then en (.if_icmp .ne 9) 112 0 0 0 else none) else
(bif Nat.blt pc 107 then
(bif Nat.beq pc 106 then en (.aload_n 0) 0 0 0 0 else none) else
(bif Nat.beq pc 107 then en (.bipush 33) 0 0 0 0 else none)))))) else
(bif Nat.blt pc 130 then
(bif Nat.blt pc 119 then
(bif Nat.blt pc 113 then
(bif Nat.blt pc 112 then
(bif Nat.beq pc 109 then en (.invokevirtual 248) 236 0 1923 7505 else none) else
(bif Nat.beq pc 112 then en (.aload_n 0) 0 0 0 0 else none)) else
(bif Nat.blt pc 116 then
(bif Nat.beq pc 113 then en (.getfield 9) 5 0 1493 0 else none) else
(bif Nat.blt pc 117 then
(bif Nat.beq pc 116 then en (.iload_n 2) 0 0 0 0 else none) else
(bif Nat.beq pc 117 then en (.bipush 8) 0 0 0 0 else none)))) else
(bif Nat.blt pc 124 then
(bif Nat.blt pc 120 then
(bif Nat.beq pc 119 then en (.iadd) 0 0 0 0 else none) else
(bif Nat.blt pc 121 then
(bif Nat.beq pc 120 then en (.iaload) 0 0 0 0 else none) else
(bif Nat.beq pc 121 then en (.ifCond .le 22) 143 0 0 0 else none))) else
(bif Nat.blt pc 125 then
(bif Nat.beq pc 124 then en (.aload_n 0) 0 0 0 0 else none) else
(bif Nat.blt pc 127 then
(bif Nat.beq pc 125 then en (.bipush 43) 0 0 0 0 else none) else
(bif Nat.beq pc 127 then en (.invokevirtual 248) 236 0 1923 7505 else none))))) else
(bif Nat.blt pc 138 then
(bif Nat.blt pc 132 then
(bif Nat.blt pc 131 then
(bif Nat.beq pc 130 then en (.aload_n 0) 0 0 0 0 else none) else
(bif Nat.beq pc 131 then en (.aload_n 0) 0 0 0 0 else none)) else
(bif Nat.blt pc 135 then
(bif Nat.beq pc 132 then en (.getfield 9) 5 0 1493 0 else none) else
(bif Nat.blt pc 136 then
(bif Nat.beq pc 135 then en (.iload_n 2) 0 0 0 0 else none) else
(bif Nat.beq pc 136 then en (.bipush 8) 0 0 0 0 else none)))) else
(bif Nat.blt pc 143 then
(bif Nat.blt pc 139 then
(bif Nat.beq pc 138 then en (.iadd) 0 0 0 0 else none) else
(bif Nat.blt pc 140 then
(bif Nat.beq pc 139 then en (.iaload) 0 0 0 0 else none) else
(bif Nat.beq pc 140 then en (.invokevirtual 251) 237 0 1927 7605 else none))) else
(bif Nat.blt pc 144 then
(bif Nat.beq pc 143 then en (.aload_n 0) 0 0 0 0 else none) else
(bif Nat.blt pc 147 then
(bif Nat.beq pc 144 then en (.getfield 245) 5 22 1515 0 else none) else
(bif Nat.beq pc 147 then en (.ireturn) 0 0 0 0 else none)))))))) else none
/-- SingleTrackLineModel.outputAt(I)C -/
def mc240 (pc : Nat) : Option En := bif Nat.blt pc 38 then (bif Nat.blt pc 18 then
(bif Nat.blt pc 8 then
(bif Nat.blt pc 5 then
(bif Nat.blt pc 1 then
(bif Nat.beq pc 0 then en (.aload_n 0) 0 0 0 0 else none) else
(bif Nat.blt pc 2 then
(bif Nat.beq pc 1 then en (.iconst 0) 0 0 0 0 else none) else
(bif Nat.beq pc 2 then en (.putfield 51) 5 9 1502 0 else none))) else
(bif Nat.blt pc 6 then
(bif Nat.beq pc 5 then en (.iload_n 1) 0 0 0 0 else none) else
(bif Nat.blt pc 7 then
(bif Nat.beq pc 6 then en (.i2l) 0 0 0 0 else none) else
(bif Nat.beq pc 7 then en (.lconst 0) 0 0 0 0 else none)))) else
(bif Nat.blt pc 13 then
(bif Nat.blt pc 9 then
(bif Nat.beq pc 8 then en (.aload_n 0) 0 0 0 0 else none) else
(bif Nat.blt pc 12 then
(bif Nat.beq pc 9 then en (.getfield 245) 5 22 1515 0 else none) else
(bif Nat.beq pc 12 then en (.iconst 1) 0 0 0 0 else none))) else
(bif Nat.blt pc 14 then
(bif Nat.beq pc 13 then en (.isub) 0 0 0 0 else none) else
(bif Nat.blt pc 15 then
(bif Nat.beq pc 14 then en (.i2l) 0 0 0 0 else none) else
(bif Nat.beq pc 15 then en (.invokestatic 57) 151 1 1580 0 else none))))) else
(bif Nat.blt pc 28 then
(bif Nat.blt pc 25 then
(bif Nat.blt pc 21 then
(bif Nat.beq pc 18 then en (.ifCond .eq 13) 31 0 0 0 else none) else
(bif Nat.blt pc 22 then
(bif Nat.beq pc 21 then en (.aload_n 0) 0 0 0 0 else none) else
(bif Nat.beq pc 22 then en (.getfield 48) 5 21 1514 0 else none))) else
(bif Nat.blt pc 26 then
(bif Nat.beq pc 25 then en (.iload_n 1) 0 0 0 0 else none) else
(bif Nat.blt pc 27 then
(bif Nat.beq pc 26 then en (.iaload) 0 0 0 0 else none) else
(bif Nat.beq pc 27 then en (.i2c) 0 0 0 0 else none)))) else
(bif Nat.blt pc 33 then
(bif Nat.blt pc 31 then
(bif Nat.beq pc 28 then en (.goto 9) 37 0 0 0 else none) else
(bif Nat.blt pc 32 then
(bif Nat.beq pc 31 then en (.aload_n 0) 0 0 0 0 else none) else
(bif Nat.beq pc 32 then en (.iconst 1) 0 0 0 0 else none))) else
(bif Nat.blt pc 36 then
(bif Nat.beq pc 33 then en (.invokevirtual 96) 150 0 1584 3405 else none) else
(bif Nat.blt pc 37 then
(bif Nat.beq pc 36 then en (.i2c) 0 0 0 0 else none) else
(bif Nat.beq pc 37 then en (.ireturn) 0 0 0 0 else none)))))) else none
/-- SingleTrackLineModel.undo()I -/
def mc241 (pc : Nat) : Option En := bif Nat.blt pc 67 then (bif Nat.blt pc 31 then
(bif Nat.blt pc 17 then
(bif Nat.blt pc 6 then
(bif Nat.blt pc 2 then
(bif Nat.blt pc 1 then
(bif Nat.beq pc 0 then en (.aload_n 0) 0 0 0 0 else none) else
(bif Nat.beq pc 1 then en (.iconst 0) 0 0 0 0 else none)) else
(bif Nat.blt pc 5 then
(bif Nat.beq pc 2 then en (.putfield 51) 5 9 1502 0 else none) else
(bif Nat.beq pc 5 then en (.aload_n 0) 0 0 0 0 else none))) else
(bif Nat.blt pc 12 then
(bif Nat.blt pc 9 then
(bif Nat.beq pc 6 then en (.getfield 54) 5 6 1499 0 else none) else
(bif Nat.beq pc 9 then en (.ifCond .ne 9) 18 0 0 0 else none)) else
(bif Nat.blt pc 13 then
(bif Nat.beq pc 12 then en (.aload_n 0) 0 0 0 0 else none) else
(bif Nat.blt pc 14 then
(bif Nat.beq pc 13 then en (.iconst 1) 0 0 0 0 else none) else
(bif Nat.beq pc 14 then en (.invokevirtual 96) 150 0 1584 3405 else none))))) else
(bif Nat.blt pc 24 then
(bif Nat.blt pc 19 then
(bif Nat.blt pc 18 then
(bif Nat.beq pc 17 then en (.ireturn) 0 0 0 0 else none) else
(bif Nat.beq pc 18 then en (.aload_n 0) 0 0 0 0 else none)) else
(bif Nat.blt pc 20 then
(bif Nat.beq pc 19 then en (.dup) 0 0 0 0 else none) else
(bif Nat.blt pc 23 then
(bif Nat.beq pc 20 then en (.getfield 54) 5 6 1499 0 else none) else
(bif Nat.beq pc 23 then en (.iconst 1) 0 0 0 0 else none)))) else
(bif Nat.blt pc 28 then
(bif Nat.blt pc 25 then
(bif Nat.beq pc 24 then en (.isub) 0 0 0 0 else none) else
(bif Nat.beq pc 25 then en (.putfield 54) 5 6 1499 0 else none)) else
(bif Nat.blt pc 29 then
(bif Nat.beq pc 28 then en (.iconst 0) 0 0 0 0 else none) else
(bif Nat.blt pc 30 then
(bif Nat.beq pc 29 then en (.istore_n 1) 0 0 0 0 else none) else
(bif Nat.beq pc 30 then en (.iload_n 1) 0 0 0 0 else none)))))) else
(bif Nat.blt pc 51 then
(bif Nat.blt pc 41 then
(bif Nat.blt pc 36 then
(bif Nat.blt pc 33 then
(bif Nat.beq pc 31 then en (.bipush 76) 0 0 0 0 else none) else
(bif Nat.beq pc 33 then en (.if_icmp .ge 29) 62 0 0 0 else none)) else
(bif Nat.blt pc 37 then
(bif Nat.beq pc 36 then en (.aload_n 0) 0 0 0 0 else none) else
(bif Nat.blt pc 40 then
(bif Nat.beq pc 37 then en (.getfield 9) 5 0 1493 0 else none) else
(bif Nat.beq pc 40 then en (.iload_n 1) 0 0 0 0 else none)))) else
(bif Nat.blt pc 45 then
(bif Nat.blt pc 42 then
(bif Nat.beq pc 41 then en (.aload_n 0) 0 0 0 0 else none) else
(bif Nat.beq pc 42 then en (.getfield 22) 5 5 1498 0 else none)) else
(bif Nat.blt pc 47 then
(bif Nat.beq pc 45 then en (.bipush 76) 0 0 0 0 else none) else
(bif Nat.blt pc 48 then
(bif Nat.beq pc 47 then en (.aload_n 0) 0 0 0 0 else none) else
(bif Nat.beq pc 48 then en (.getfield 54) 5 6 1499 0 else none))))) else
(bif Nat.blt pc 56 then
(bif Nat.blt pc 53 then
(bif Nat.blt pc 52 then
(bif Nat.beq pc 51 then en (.imul) 0 0 0 0 else none) else
(bif Nat.beq pc 52 then en (.iload_n 1) 0 0 0 0 else none)) else
(bif Nat.blt pc 54 then
(bif Nat.beq pc 53 then en (.iadd) 0 0 0 0 else none) else
(bif Nat.blt pc 55 then
(bif Nat.beq pc 54 then en (.iaload) 0 0 0 0 else none) else
(bif Nat.beq pc 55 then en (.iastore) 0 0 0 0 else none)))) else
(bif Nat.blt pc 62 then
(bif Nat.blt pc 59 then
(bif Nat.beq pc 56 then en (.iinc 1 1) 0 0 0 0 else none) else
(bif Nat.beq pc 59 then en (.goto (-29)) 30 0 0 0 else none)) else
(bif Nat.blt pc 63 then
(bif Nat.beq pc 62 then en (.aload_n 0) 0 0 0 0 else none) else
(bif Nat.blt pc 66 then
(bif Nat.beq pc 63 then en (.getfield 54) 5 6 1499 0 else none) else
(bif Nat.beq pc 66 then en (.ireturn) 0 0 0 0 else none))))))) else none
/-- SingleTrackLineModel.save()V -/
def mc242 (pc : Nat) : Option En := bif Nat.blt pc 37 then (bif Nat.blt pc 18 then
(bif Nat.blt pc 7 then
(bif Nat.blt pc 2 then
(bif Nat.blt pc 1 then
(bif Nat.beq pc 0 then en (.aload_n 0) 0 0 0 0 else none) else
(bif Nat.beq pc 1 then en (.iconst 0) 0 0 0 0 else none)) else
(bif Nat.blt pc 5 then
(bif Nat.beq pc 2 then en (.putfield 51) 5 9 1502 0 else none) else
(bif Nat.blt pc 6 then
(bif Nat.beq pc 5 then en (.iconst 0) 0 0 0 0 else none) else
(bif Nat.beq pc 6 then en (.istore_n 1) 0 0 0 0 else none)))) else
(bif Nat.blt pc 13 then
(bif Nat.blt pc 8 then
(bif Nat.beq pc 7 then en (.iload_n 1) 0 0 0 0 else none) else
(bif Nat.blt pc 10 then
(bif Nat.beq pc 8 then en (.bipush 76) 0 0 0 0 else none) else
(bif Nat.beq pc 10 then en (.if_icmp .ge 21) 31 0 0 0 else none))) else
(bif Nat.blt pc 14 then
(bif Nat.beq pc 13 then en (.aload_n 0) 0 0 0 0 else none) else
(bif Nat.blt pc 17 then
(bif Nat.beq pc 14 then en (.getfield 19) 5 3 1496 0 else none) else
(bif Nat.beq pc 17 then en (.iload_n 1) 0 0 0 0 else none))))) else
(bif Nat.blt pc 25 then
(bif Nat.blt pc 22 then
(bif Nat.blt pc 19 then
(bif Nat.beq pc 18 then en (.aload_n 0) 0 0 0 0 else none) else
(bif Nat.beq pc 19 then en (.getfield 9) 5 0 1493 0 else none)) else
(bif Nat.blt pc 23 then
(bif Nat.beq pc 22 then en (.iload_n 1) 0 0 0 0 else none) else
(bif Nat.blt pc 24 then
(bif Nat.beq pc 23 then en (.iaload) 0 0 0 0 else none) else
(bif Nat.beq pc 24 then en (.iastore) 0 0 0 0 else none)))) else
(bif Nat.blt pc 32 then
(bif Nat.blt pc 28 then
(bif Nat.beq pc 25 then en (.iinc 1 1) 0 0 0 0 else none) else
(bif Nat.blt pc 31 then
(bif Nat.beq pc 28 then en (.goto (-21)) 7 0 0 0 else none) else
(bif Nat.beq pc 31 then en (.aload_n 0) 0 0 0 0 else none))) else
(bif Nat.blt pc 33 then
(bif Nat.beq pc 32 then en (.iconst 1) 0 0 0 0 else none) else
(bif Nat.blt pc 36 then
(bif Nat.beq pc 33 then en (.putfield 254) 5 4 1497 0 else none) else
(bif Nat.beq pc 36 then en (.return_) 0 0 0 0 else none)))))) else none
/-- SingleTrackLineModel.restore()V -/
def mc243 (pc : Nat) : Option En := bif Nat.blt pc 51 then (bif Nat.blt pc 24 then
(bif Nat.blt pc 13 then
(bif Nat.blt pc 5 then
(bif Nat.blt pc 1 then
(bif Nat.beq pc 0 then en (.aload_n 0) 0 0 0 0 else none) else
(bif Nat.blt pc 2 then
(bif Nat.beq pc 1 then en (.iconst 0) 0 0 0 0 else none) else
(bif Nat.beq pc 2 then en (.putfield 51) 5 9 1502 0 else none))) else
(bif Nat.blt pc 9 then
(bif Nat.blt pc 6 then
(bif Nat.beq pc 5 then en (.aload_n 0) 0 0 0 0 else none) else
(bif Nat.beq pc 6 then en (.getfield 254) 5 4 1497 0 else none)) else
(bif Nat.blt pc 12 then
(bif Nat.beq pc 9 then en (.ifCond .ne 10) 19 0 0 0 else none) else
(bif Nat.beq pc 12 then en (.aload_n 0) 0 0 0 0 else none)))) else
(bif Nat.blt pc 19 then
(bif Nat.blt pc 17 then
(bif Nat.blt pc 14 then
(bif Nat.beq pc 13 then en (.iconst 1) 0 0 0 0 else none) else
(bif Nat.beq pc 14 then en (.invokevirtual 96) 150 0 1584 3405 else none)) else
(bif Nat.blt pc 18 then
(bif Nat.beq pc 17 then en (.pop) 0 0 0 0 else none) else
(bif Nat.beq pc 18 then en (.return_) 0 0 0 0 else none))) else
(bif Nat.blt pc 21 then
(bif Nat.blt pc 20 then
(bif Nat.beq pc 19 then en (.iconst 0) 0 0 0 0 else none) else
(bif Nat.beq pc 20 then en (.istore_n 1) 0 0 0 0 else none)) else
(bif Nat.blt pc 22 then
(bif Nat.beq pc 21 then en (.iload_n 1) 0 0 0 0 else none) else
(bif Nat.beq pc 22 then en (.bipush 76) 0 0 0 0 else none))))) else
(bif Nat.blt pc 37 then
(bif Nat.blt pc 31 then
(bif Nat.blt pc 27 then
(bif Nat.beq pc 24 then en (.if_icmp .ge 21) 45 0 0 0 else none) else
(bif Nat.blt pc 28 then
(bif Nat.beq pc 27 then en (.aload_n 0) 0 0 0 0 else none) else
(bif Nat.beq pc 28 then en (.getfield 9) 5 0 1493 0 else none))) else
(bif Nat.blt pc 33 then
(bif Nat.blt pc 32 then
(bif Nat.beq pc 31 then en (.iload_n 1) 0 0 0 0 else none) else
(bif Nat.beq pc 32 then en (.aload_n 0) 0 0 0 0 else none)) else
(bif Nat.blt pc 36 then
(bif Nat.beq pc 33 then en (.getfield 19) 5 3 1496 0 else none) else
(bif Nat.beq pc 36 then en (.iload_n 1) 0 0 0 0 else none)))) else
(bif Nat.blt pc 45 then
(bif Nat.blt pc 39 then
(bif Nat.blt pc 38 then
(bif Nat.beq pc 37 then en (.iaload) 0 0 0 0 else none) else
(bif Nat.beq pc 38 then en (.iastore) 0 0 0 0 else none)) else
(bif Nat.blt pc 42 then
(bif Nat.beq pc 39 then en (.iinc 1 1) 0 0 0 0 else none) else
(bif Nat.beq pc 42 then en (.goto (-21)) 21 0 0 0 else none))) else
(bif Nat.blt pc 47 then
(bif Nat.blt pc 46 then
(bif Nat.beq pc 45 then en (.aload_n 0) 0 0 0 0 else none) else
(bif Nat.beq pc 46 then en (.iconst 0) 0 0 0 0 else none)) else
(bif Nat.blt pc 50 then
(bif Nat.beq pc 47 then en (.putfield 54) 5 6 1499 0 else none) else
(bif Nat.beq pc 50 then en (.return_) 0 0 0 0 else none)))))) else none
/-- SingleTrackLineLaw.addStation(LSingleTrackLine;II[J)I -/
def mc244 (pc : Nat) : Option En := bif Nat.blt pc 23 then (bif Nat.blt pc 10 then
(bif Nat.blt pc 4 then
(bif Nat.blt pc 2 then
(bif Nat.blt pc 1 then
(bif Nat.beq pc 0 then en (.aload_n 3) 0 0 0 0 else none) else
(bif Nat.beq pc 1 then en (.iconst 0) 0 0 0 0 else none)) else
(bif Nat.blt pc 3 then
(bif Nat.beq pc 2 then en (.aload_n 0) 0 0 0 0 else none) else
(bif Nat.beq pc 3 then en (.iload_n 1) 0 0 0 0 else none))) else
(bif Nat.blt pc 8 then
(bif Nat.blt pc 5 then
(bif Nat.beq pc 4 then en (.iload_n 2) 0 0 0 0 else none) else
(bif Nat.beq pc 5 then en (.invokevirtual 7) 91 0 928 93000 else none)) else
(bif Nat.blt pc 9 then
(bif Nat.beq pc 8 then en (.i2l) 0 0 0 0 else none) else
(bif Nat.beq pc 9 then en (.lastore) 0 0 0 0 else none)))) else
(bif Nat.blt pc 17 then
(bif Nat.blt pc 15 then
(bif Nat.blt pc 13 then
(bif Nat.beq pc 10 then en (.goto 11) 21 0 0 0 else none) else
(bif Nat.beq pc 13 then en (.astore 4) 0 0 0 0 else none)) else
(bif Nat.blt pc 16 then
(bif Nat.beq pc 15 then en (.iconst 1) 0 0 0 0 else none) else
(bif Nat.beq pc 16 then en (.ireturn) 0 0 0 0 else none))) else
(bif Nat.blt pc 20 then
(bif Nat.blt pc 19 then
(bif Nat.beq pc 17 then en (.astore 4) 0 0 0 0 else none) else
(bif Nat.beq pc 19 then en (.iconst 2) 0 0 0 0 else none)) else
(bif Nat.blt pc 21 then
(bif Nat.beq pc 20 then en (.ireturn) 0 0 0 0 else none) else
(bif Nat.blt pc 22 then
(bif Nat.beq pc 21 then en (.iconst 0) 0 0 0 0 else none) else
(bif Nat.beq pc 22 then en (.ireturn) 0 0 0 0 else none)))))) else none
/-- SingleTrackLineLaw.setTracks(LSingleTrackLine;II[J)I -/
def mc245 (pc : Nat) : Option En := bif Nat.blt pc 27 then (bif Nat.blt pc 15 then
(bif Nat.blt pc 5 then
(bif Nat.blt pc 2 then
(bif Nat.blt pc 1 then
(bif Nat.beq pc 0 then en (.aload_n 3) 0 0 0 0 else none) else
(bif Nat.beq pc 1 then en (.iconst 0) 0 0 0 0 else none)) else
(bif Nat.blt pc 3 then
(bif Nat.beq pc 2 then en (.aload_n 0) 0 0 0 0 else none) else
(bif Nat.blt pc 4 then
(bif Nat.beq pc 3 then en (.iload_n 1) 0 0 0 0 else none) else
(bif Nat.beq pc 4 then en (.iload_n 2) 0 0 0 0 else none)))) else
(bif Nat.blt pc 9 then
(bif Nat.blt pc 8 then
(bif Nat.beq pc 5 then en (.invokevirtual 17) 92 0 1047 104900 else none) else
(bif Nat.beq pc 8 then en (.i2l) 0 0 0 0 else none)) else
(bif Nat.blt pc 10 then
(bif Nat.beq pc 9 then en (.lastore) 0 0 0 0 else none) else
(bif Nat.blt pc 13 then
(bif Nat.beq pc 10 then en (.goto 15) 25 0 0 0 else none) else
(bif Nat.beq pc 13 then en (.astore 4) 0 0 0 0 else none))))) else
(bif Nat.blt pc 21 then
(bif Nat.blt pc 17 then
(bif Nat.blt pc 16 then
(bif Nat.beq pc 15 then en (.iconst 1) 0 0 0 0 else none) else
(bif Nat.beq pc 16 then en (.ireturn) 0 0 0 0 else none)) else
(bif Nat.blt pc 19 then
(bif Nat.beq pc 17 then en (.astore 4) 0 0 0 0 else none) else
(bif Nat.blt pc 20 then
(bif Nat.beq pc 19 then en (.iconst 2) 0 0 0 0 else none) else
(bif Nat.beq pc 20 then en (.ireturn) 0 0 0 0 else none)))) else
(bif Nat.blt pc 24 then
(bif Nat.blt pc 23 then
(bif Nat.beq pc 21 then en (.astore 4) 0 0 0 0 else none) else
(bif Nat.beq pc 23 then en (.iconst 3) 0 0 0 0 else none)) else
(bif Nat.blt pc 25 then
(bif Nat.beq pc 24 then en (.ireturn) 0 0 0 0 else none) else
(bif Nat.blt pc 26 then
(bif Nat.beq pc 25 then en (.iconst 0) 0 0 0 0 else none) else
(bif Nat.beq pc 26 then en (.ireturn) 0 0 0 0 else none)))))) else none
/-- SingleTrackLineLaw.addTrain(LSingleTrackLine;III[J)I -/
def mc246 (pc : Nat) : Option En := bif Nat.blt pc 29 then (bif Nat.blt pc 15 then
(bif Nat.blt pc 6 then
(bif Nat.blt pc 3 then
(bif Nat.blt pc 2 then
(bif Nat.beq pc 0 then en (.aload 4) 0 0 0 0 else none) else
(bif Nat.beq pc 2 then en (.iconst 0) 0 0 0 0 else none)) else
(bif Nat.blt pc 4 then
(bif Nat.beq pc 3 then en (.aload_n 0) 0 0 0 0 else none) else
(bif Nat.blt pc 5 then
(bif Nat.beq pc 4 then en (.iload_n 1) 0 0 0 0 else none) else
(bif Nat.beq pc 5 then en (.iload_n 2) 0 0 0 0 else none)))) else
(bif Nat.blt pc 10 then
(bif Nat.blt pc 7 then
(bif Nat.beq pc 6 then en (.iload_n 3) 0 0 0 0 else none) else
(bif Nat.beq pc 7 then en (.invokevirtual 22) 93 0 1056 105800 else none)) else
(bif Nat.blt pc 11 then
(bif Nat.beq pc 10 then en (.i2l) 0 0 0 0 else none) else
(bif Nat.blt pc 12 then
(bif Nat.beq pc 11 then en (.lastore) 0 0 0 0 else none) else
(bif Nat.beq pc 12 then en (.goto 15) 27 0 0 0 else none))))) else
(bif Nat.blt pc 22 then
(bif Nat.blt pc 18 then
(bif Nat.blt pc 17 then
(bif Nat.beq pc 15 then en (.astore 5) 0 0 0 0 else none) else
(bif Nat.beq pc 17 then en (.iconst 1) 0 0 0 0 else none)) else
(bif Nat.blt pc 19 then
(bif Nat.beq pc 18 then en (.ireturn) 0 0 0 0 else none) else
(bif Nat.blt pc 21 then
(bif Nat.beq pc 19 then en (.astore 5) 0 0 0 0 else none) else
(bif Nat.beq pc 21 then en (.iconst 2) 0 0 0 0 else none)))) else
(bif Nat.blt pc 26 then
(bif Nat.blt pc 23 then
(bif Nat.beq pc 22 then en (.ireturn) 0 0 0 0 else none) else
(bif Nat.blt pc 25 then
(bif Nat.beq pc 23 then en (.astore 5) 0 0 0 0 else none) else
(bif Nat.beq pc 25 then en (.iconst 3) 0 0 0 0 else none))) else
(bif Nat.blt pc 27 then
(bif Nat.beq pc 26 then en (.ireturn) 0 0 0 0 else none) else
(bif Nat.blt pc 28 then
(bif Nat.beq pc 27 then en (.iconst 0) 0 0 0 0 else none) else
(bif Nat.beq pc 28 then en (.ireturn) 0 0 0 0 else none)))))) else none
/-- SingleTrackLineLaw.hold(LSingleTrackLine;I[J)I -/
def mc247 (pc : Nat) : Option En := bif Nat.blt pc 20 then (bif Nat.blt pc 12 then
(bif Nat.blt pc 4 then
(bif Nat.blt pc 2 then
(bif Nat.blt pc 1 then
(bif Nat.beq pc 0 then en (.aload_n 2) 0 0 0 0 else none) else
(bif Nat.beq pc 1 then en (.iconst 0) 0 0 0 0 else none)) else
(bif Nat.blt pc 3 then
(bif Nat.beq pc 2 then en (.aload_n 0) 0 0 0 0 else none) else
(bif Nat.beq pc 3 then en (.iload_n 1) 0 0 0 0 else none))) else
(bif Nat.blt pc 8 then
(bif Nat.blt pc 7 then
(bif Nat.beq pc 4 then en (.invokevirtual 26) 94 0 1066 106800 else none) else
(bif Nat.beq pc 7 then en (.i2l) 0 0 0 0 else none)) else
(bif Nat.blt pc 9 then
(bif Nat.beq pc 8 then en (.lastore) 0 0 0 0 else none) else
(bif Nat.beq pc 9 then en (.goto 9) 18 0 0 0 else none)))) else
(bif Nat.blt pc 16 then
(bif Nat.blt pc 14 then
(bif Nat.blt pc 13 then
(bif Nat.beq pc 12 then en (.astore_n 3) 0 0 0 0 else none) else
(bif Nat.beq pc 13 then en (.iconst 1) 0 0 0 0 else none)) else
(bif Nat.blt pc 15 then
(bif Nat.beq pc 14 then en (.ireturn) 0 0 0 0 else none) else
(bif Nat.beq pc 15 then en (.astore_n 3) 0 0 0 0 else none))) else
(bif Nat.blt pc 18 then
(bif Nat.blt pc 17 then
(bif Nat.beq pc 16 then en (.iconst 2) 0 0 0 0 else none) else
(bif Nat.beq pc 17 then en (.ireturn) 0 0 0 0 else none)) else
(bif Nat.blt pc 19 then
(bif Nat.beq pc 18 then en (.iconst 0) 0 0 0 0 else none) else
(bif Nat.beq pc 19 then en (.ireturn) 0 0 0 0 else none))))) else none
/-- SingleTrackLineLaw.releaseTrain(LSingleTrackLine;I[J)I -/
def mc248 (pc : Nat) : Option En := bif Nat.blt pc 20 then (bif Nat.blt pc 12 then
(bif Nat.blt pc 4 then
(bif Nat.blt pc 2 then
(bif Nat.blt pc 1 then
(bif Nat.beq pc 0 then en (.aload_n 2) 0 0 0 0 else none) else
(bif Nat.beq pc 1 then en (.iconst 0) 0 0 0 0 else none)) else
(bif Nat.blt pc 3 then
(bif Nat.beq pc 2 then en (.aload_n 0) 0 0 0 0 else none) else
(bif Nat.beq pc 3 then en (.iload_n 1) 0 0 0 0 else none))) else
(bif Nat.blt pc 8 then
(bif Nat.blt pc 7 then
(bif Nat.beq pc 4 then en (.invokevirtual 32) 95 0 1075 107700 else none) else
(bif Nat.beq pc 7 then en (.i2l) 0 0 0 0 else none)) else
(bif Nat.blt pc 9 then
(bif Nat.beq pc 8 then en (.lastore) 0 0 0 0 else none) else
(bif Nat.beq pc 9 then en (.goto 9) 18 0 0 0 else none)))) else
(bif Nat.blt pc 16 then
(bif Nat.blt pc 14 then
(bif Nat.blt pc 13 then
(bif Nat.beq pc 12 then en (.astore_n 3) 0 0 0 0 else none) else
(bif Nat.beq pc 13 then en (.iconst 1) 0 0 0 0 else none)) else
(bif Nat.blt pc 15 then
(bif Nat.beq pc 14 then en (.ireturn) 0 0 0 0 else none) else
(bif Nat.beq pc 15 then en (.astore_n 3) 0 0 0 0 else none))) else
(bif Nat.blt pc 18 then
(bif Nat.blt pc 17 then
(bif Nat.beq pc 16 then en (.iconst 2) 0 0 0 0 else none) else
(bif Nat.beq pc 17 then en (.ireturn) 0 0 0 0 else none)) else
(bif Nat.blt pc 19 then
(bif Nat.beq pc 18 then en (.iconst 0) 0 0 0 0 else none) else
(bif Nat.beq pc 19 then en (.ireturn) 0 0 0 0 else none))))) else none
/-- SingleTrackLineLaw.cancelTrain(LSingleTrackLine;I[J)I -/
def mc249 (pc : Nat) : Option En := bif Nat.blt pc 20 then (bif Nat.blt pc 12 then
(bif Nat.blt pc 4 then
(bif Nat.blt pc 2 then
(bif Nat.blt pc 1 then
(bif Nat.beq pc 0 then en (.aload_n 2) 0 0 0 0 else none) else
(bif Nat.beq pc 1 then en (.iconst 0) 0 0 0 0 else none)) else
(bif Nat.blt pc 3 then
(bif Nat.beq pc 2 then en (.aload_n 0) 0 0 0 0 else none) else
(bif Nat.beq pc 3 then en (.iload_n 1) 0 0 0 0 else none))) else
(bif Nat.blt pc 8 then
(bif Nat.blt pc 7 then
(bif Nat.beq pc 4 then en (.invokevirtual 35) 96 0 1084 108600 else none) else
(bif Nat.beq pc 7 then en (.i2l) 0 0 0 0 else none)) else
(bif Nat.blt pc 9 then
(bif Nat.beq pc 8 then en (.lastore) 0 0 0 0 else none) else
(bif Nat.beq pc 9 then en (.goto 9) 18 0 0 0 else none)))) else
(bif Nat.blt pc 16 then
(bif Nat.blt pc 14 then
(bif Nat.blt pc 13 then
(bif Nat.beq pc 12 then en (.astore_n 3) 0 0 0 0 else none) else
(bif Nat.beq pc 13 then en (.iconst 1) 0 0 0 0 else none)) else
(bif Nat.blt pc 15 then
(bif Nat.beq pc 14 then en (.ireturn) 0 0 0 0 else none) else
(bif Nat.beq pc 15 then en (.astore_n 3) 0 0 0 0 else none))) else
(bif Nat.blt pc 18 then
(bif Nat.blt pc 17 then
(bif Nat.beq pc 16 then en (.iconst 2) 0 0 0 0 else none) else
(bif Nat.beq pc 17 then en (.ireturn) 0 0 0 0 else none)) else
(bif Nat.blt pc 19 then
(bif Nat.beq pc 18 then en (.iconst 0) 0 0 0 0 else none) else
(bif Nat.beq pc 19 then en (.ireturn) 0 0 0 0 else none))))) else none
/-- SingleTrackLineLaw.advance(LSingleTrackLine;I[J)I -/
def mc250 (pc : Nat) : Option En := bif Nat.blt pc 17 then (bif Nat.blt pc 8 then
(bif Nat.blt pc 3 then
(bif Nat.blt pc 1 then
(bif Nat.beq pc 0 then en (.aload_n 2) 0 0 0 0 else none) else
(bif Nat.blt pc 2 then
(bif Nat.beq pc 1 then en (.iconst 0) 0 0 0 0 else none) else
(bif Nat.beq pc 2 then en (.aload_n 0) 0 0 0 0 else none))) else
(bif Nat.blt pc 4 then
(bif Nat.beq pc 3 then en (.iload_n 1) 0 0 0 0 else none) else
(bif Nat.blt pc 7 then
(bif Nat.beq pc 4 then en (.invokevirtual 38) 97 0 1093 109500 else none) else
(bif Nat.beq pc 7 then en (.i2l) 0 0 0 0 else none)))) else
(bif Nat.blt pc 13 then
(bif Nat.blt pc 9 then
(bif Nat.beq pc 8 then en (.lastore) 0 0 0 0 else none) else
(bif Nat.blt pc 12 then
(bif Nat.beq pc 9 then en (.goto 6) 15 0 0 0 else none) else
(bif Nat.beq pc 12 then en (.astore_n 3) 0 0 0 0 else none))) else
(bif Nat.blt pc 15 then
(bif Nat.blt pc 14 then
(bif Nat.beq pc 13 then en (.iconst 1) 0 0 0 0 else none) else
(bif Nat.beq pc 14 then en (.ireturn) 0 0 0 0 else none)) else
(bif Nat.blt pc 16 then
(bif Nat.beq pc 15 then en (.iconst 0) 0 0 0 0 else none) else
(bif Nat.beq pc 16 then en (.ireturn) 0 0 0 0 else none))))) else none
/-- SingleTrackLineLaw.tracks(LSingleTrackLine;I[J)I -/
def mc251 (pc : Nat) : Option En := bif Nat.blt pc 17 then (bif Nat.blt pc 8 then
(bif Nat.blt pc 3 then
(bif Nat.blt pc 1 then
(bif Nat.beq pc 0 then en (.aload_n 2) 0 0 0 0 else none) else
(bif Nat.blt pc 2 then
(bif Nat.beq pc 1 then en (.iconst 0) 0 0 0 0 else none) else
(bif Nat.beq pc 2 then en (.aload_n 0) 0 0 0 0 else none))) else
(bif Nat.blt pc 4 then
(bif Nat.beq pc 3 then en (.iload_n 1) 0 0 0 0 else none) else
(bif Nat.blt pc 7 then
(bif Nat.beq pc 4 then en (.invokevirtual 41) 101 0 1101 110300 else none) else
(bif Nat.beq pc 7 then en (.i2l) 0 0 0 0 else none)))) else
(bif Nat.blt pc 13 then
(bif Nat.blt pc 9 then
(bif Nat.beq pc 8 then en (.lastore) 0 0 0 0 else none) else
(bif Nat.blt pc 12 then
(bif Nat.beq pc 9 then en (.goto 6) 15 0 0 0 else none) else
(bif Nat.beq pc 12 then en (.astore_n 3) 0 0 0 0 else none))) else
(bif Nat.blt pc 15 then
(bif Nat.blt pc 14 then
(bif Nat.beq pc 13 then en (.iconst 1) 0 0 0 0 else none) else
(bif Nat.beq pc 14 then en (.ireturn) 0 0 0 0 else none)) else
(bif Nat.blt pc 16 then
(bif Nat.beq pc 15 then en (.iconst 0) 0 0 0 0 else none) else
(bif Nat.beq pc 16 then en (.ireturn) 0 0 0 0 else none))))) else none
/-- SingleTrackLineLaw.freeTracks(LSingleTrackLine;I[J)I -/
def mc252 (pc : Nat) : Option En := bif Nat.blt pc 17 then (bif Nat.blt pc 8 then
(bif Nat.blt pc 3 then
(bif Nat.blt pc 1 then
(bif Nat.beq pc 0 then en (.aload_n 2) 0 0 0 0 else none) else
(bif Nat.blt pc 2 then
(bif Nat.beq pc 1 then en (.iconst 0) 0 0 0 0 else none) else
(bif Nat.beq pc 2 then en (.aload_n 0) 0 0 0 0 else none))) else
(bif Nat.blt pc 4 then
(bif Nat.beq pc 3 then en (.iload_n 1) 0 0 0 0 else none) else
(bif Nat.blt pc 7 then
(bif Nat.beq pc 4 then en (.invokevirtual 44) 102 0 1113 111500 else none) else
(bif Nat.beq pc 7 then en (.i2l) 0 0 0 0 else none)))) else
(bif Nat.blt pc 13 then
(bif Nat.blt pc 9 then
(bif Nat.beq pc 8 then en (.lastore) 0 0 0 0 else none) else
(bif Nat.blt pc 12 then
(bif Nat.beq pc 9 then en (.goto 6) 15 0 0 0 else none) else
(bif Nat.beq pc 12 then en (.astore_n 3) 0 0 0 0 else none))) else
(bif Nat.blt pc 15 then
(bif Nat.blt pc 14 then
(bif Nat.beq pc 13 then en (.iconst 1) 0 0 0 0 else none) else
(bif Nat.beq pc 14 then en (.ireturn) 0 0 0 0 else none)) else
(bif Nat.blt pc 16 then
(bif Nat.beq pc 15 then en (.iconst 0) 0 0 0 0 else none) else
(bif Nat.beq pc 16 then en (.ireturn) 0 0 0 0 else none))))) else none
/-- SingleTrackLineLaw.trainsAt(LSingleTrackLine;I[J)I -/
def mc253 (pc : Nat) : Option En := bif Nat.blt pc 17 then (bif Nat.blt pc 8 then
(bif Nat.blt pc 3 then
(bif Nat.blt pc 1 then
(bif Nat.beq pc 0 then en (.aload_n 2) 0 0 0 0 else none) else
(bif Nat.blt pc 2 then
(bif Nat.beq pc 1 then en (.iconst 0) 0 0 0 0 else none) else
(bif Nat.beq pc 2 then en (.aload_n 0) 0 0 0 0 else none))) else
(bif Nat.blt pc 4 then
(bif Nat.beq pc 3 then en (.iload_n 1) 0 0 0 0 else none) else
(bif Nat.blt pc 7 then
(bif Nat.beq pc 4 then en (.invokevirtual 47) 103 0 1121 112300 else none) else
(bif Nat.beq pc 7 then en (.i2l) 0 0 0 0 else none)))) else
(bif Nat.blt pc 13 then
(bif Nat.blt pc 9 then
(bif Nat.beq pc 8 then en (.lastore) 0 0 0 0 else none) else
(bif Nat.blt pc 12 then
(bif Nat.beq pc 9 then en (.goto 6) 15 0 0 0 else none) else
(bif Nat.beq pc 12 then en (.astore_n 3) 0 0 0 0 else none))) else
(bif Nat.blt pc 15 then
(bif Nat.blt pc 14 then
(bif Nat.beq pc 13 then en (.iconst 1) 0 0 0 0 else none) else
(bif Nat.beq pc 14 then en (.ireturn) 0 0 0 0 else none)) else
(bif Nat.blt pc 16 then
(bif Nat.beq pc 15 then en (.iconst 0) 0 0 0 0 else none) else
(bif Nat.beq pc 16 then en (.ireturn) 0 0 0 0 else none))))) else none
/-- SingleTrackLineLaw.runningTime(LSingleTrackLine;I[J)I -/
def mc254 (pc : Nat) : Option En := bif Nat.blt pc 17 then (bif Nat.blt pc 8 then
(bif Nat.blt pc 3 then
(bif Nat.blt pc 1 then
(bif Nat.beq pc 0 then en (.aload_n 2) 0 0 0 0 else none) else
(bif Nat.blt pc 2 then
(bif Nat.beq pc 1 then en (.iconst 0) 0 0 0 0 else none) else
(bif Nat.beq pc 2 then en (.aload_n 0) 0 0 0 0 else none))) else
(bif Nat.blt pc 4 then
(bif Nat.beq pc 3 then en (.iload_n 1) 0 0 0 0 else none) else
(bif Nat.blt pc 7 then
(bif Nat.beq pc 4 then en (.invokevirtual 50) 104 0 1128 113000 else none) else
(bif Nat.beq pc 7 then en (.i2l) 0 0 0 0 else none)))) else
(bif Nat.blt pc 13 then
(bif Nat.blt pc 9 then
(bif Nat.beq pc 8 then en (.lastore) 0 0 0 0 else none) else
(bif Nat.blt pc 12 then
(bif Nat.beq pc 9 then en (.goto 6) 15 0 0 0 else none) else
(bif Nat.beq pc 12 then en (.astore_n 3) 0 0 0 0 else none))) else
(bif Nat.blt pc 15 then
(bif Nat.blt pc 14 then
(bif Nat.beq pc 13 then en (.iconst 1) 0 0 0 0 else none) else
(bif Nat.beq pc 14 then en (.ireturn) 0 0 0 0 else none)) else
(bif Nat.blt pc 16 then
(bif Nat.beq pc 15 then en (.iconst 0) 0 0 0 0 else none) else
(bif Nat.beq pc 16 then en (.ireturn) 0 0 0 0 else none))))) else none
/-- SingleTrackLineLaw.isTokenFree(LSingleTrackLine;I[J)I -/
def mc255 (pc : Nat) : Option En := bif Nat.blt pc 24 then (bif Nat.blt pc 14 then
(bif Nat.blt pc 4 then
(bif Nat.blt pc 2 then
(bif Nat.blt pc 1 then
(bif Nat.beq pc 0 then en (.aload_n 2) 0 0 0 0 else none) else
(bif Nat.beq pc 1 then en (.iconst 0) 0 0 0 0 else none)) else
(bif Nat.blt pc 3 then
(bif Nat.beq pc 2 then en (.aload_n 0) 0 0 0 0 else none) else
(bif Nat.beq pc 3 then en (.iload_n 1) 0 0 0 0 else none))) else
(bif Nat.blt pc 10 then
(bif Nat.blt pc 7 then
(bif Nat.beq pc 4 then en (.invokevirtual 53) 105 0 1141 114300 else none) else
(bif Nat.beq pc 7 then en (.ifCond .eq 7) 14 0 0 0 else none)) else
(bif Nat.blt pc 11 then
(bif Nat.beq pc 10 then en (.lconst 1) 0 0 0 0 else none) else
(bif Nat.beq pc 11 then en (.goto 4) 15 0 0 0 else none)))) else
(bif Nat.blt pc 20 then
(bif Nat.blt pc 16 then
(bif Nat.blt pc 15 then
(bif Nat.beq pc 14 then en (.lconst 0) 0 0 0 0 else none) else
(bif Nat.beq pc 15 then en (.lastore) 0 0 0 0 else none)) else
(bif Nat.blt pc 19 then
(bif Nat.beq pc 16 then en (.goto 6) 22 0 0 0 else none) else
(bif Nat.beq pc 19 then en (.astore_n 3) 0 0 0 0 else none))) else
(bif Nat.blt pc 22 then
(bif Nat.blt pc 21 then
(bif Nat.beq pc 20 then en (.iconst 1) 0 0 0 0 else none) else
(bif Nat.beq pc 21 then en (.ireturn) 0 0 0 0 else none)) else
(bif Nat.blt pc 23 then
(bif Nat.beq pc 22 then en (.iconst 0) 0 0 0 0 else none) else
(bif Nat.beq pc 23 then en (.ireturn) 0 0 0 0 else none))))) else none
/-- SingleTrackLineLaw.tokenHolder(LSingleTrackLine;I[J)I -/
def mc256 (pc : Nat) : Option En := bif Nat.blt pc 20 then (bif Nat.blt pc 12 then
(bif Nat.blt pc 4 then
(bif Nat.blt pc 2 then
(bif Nat.blt pc 1 then
(bif Nat.beq pc 0 then en (.aload_n 2) 0 0 0 0 else none) else
(bif Nat.beq pc 1 then en (.iconst 0) 0 0 0 0 else none)) else
(bif Nat.blt pc 3 then
(bif Nat.beq pc 2 then en (.aload_n 0) 0 0 0 0 else none) else
(bif Nat.beq pc 3 then en (.iload_n 1) 0 0 0 0 else none))) else
(bif Nat.blt pc 8 then
(bif Nat.blt pc 7 then
(bif Nat.beq pc 4 then en (.invokevirtual 57) 106 0 1148 115000 else none) else
(bif Nat.beq pc 7 then en (.i2l) 0 0 0 0 else none)) else
(bif Nat.blt pc 9 then
(bif Nat.beq pc 8 then en (.lastore) 0 0 0 0 else none) else
(bif Nat.beq pc 9 then en (.goto 9) 18 0 0 0 else none)))) else
(bif Nat.blt pc 16 then
(bif Nat.blt pc 14 then
(bif Nat.blt pc 13 then
(bif Nat.beq pc 12 then en (.astore_n 3) 0 0 0 0 else none) else
(bif Nat.beq pc 13 then en (.iconst 1) 0 0 0 0 else none)) else
(bif Nat.blt pc 15 then
(bif Nat.beq pc 14 then en (.ireturn) 0 0 0 0 else none) else
(bif Nat.beq pc 15 then en (.astore_n 3) 0 0 0 0 else none))) else
(bif Nat.blt pc 18 then
(bif Nat.blt pc 17 then
(bif Nat.beq pc 16 then en (.iconst 2) 0 0 0 0 else none) else
(bif Nat.beq pc 17 then en (.ireturn) 0 0 0 0 else none)) else
(bif Nat.blt pc 19 then
(bif Nat.beq pc 18 then en (.iconst 0) 0 0 0 0 else none) else
(bif Nat.beq pc 19 then en (.ireturn) 0 0 0 0 else none))))) else none
/-- SingleTrackLineLaw.distance(LSingleTrackLine;II[J)I -/
def mc257 (pc : Nat) : Option En := bif Nat.blt pc 19 then (bif Nat.blt pc 9 then
(bif Nat.blt pc 3 then
(bif Nat.blt pc 1 then
(bif Nat.beq pc 0 then en (.aload_n 3) 0 0 0 0 else none) else
(bif Nat.blt pc 2 then
(bif Nat.beq pc 1 then en (.iconst 0) 0 0 0 0 else none) else
(bif Nat.beq pc 2 then en (.aload_n 0) 0 0 0 0 else none))) else
(bif Nat.blt pc 5 then
(bif Nat.blt pc 4 then
(bif Nat.beq pc 3 then en (.iload_n 1) 0 0 0 0 else none) else
(bif Nat.beq pc 4 then en (.iload_n 2) 0 0 0 0 else none)) else
(bif Nat.blt pc 8 then
(bif Nat.beq pc 5 then en (.invokevirtual 60) 107 0 1156 115800 else none) else
(bif Nat.beq pc 8 then en (.i2l) 0 0 0 0 else none)))) else
(bif Nat.blt pc 15 then
(bif Nat.blt pc 10 then
(bif Nat.beq pc 9 then en (.lastore) 0 0 0 0 else none) else
(bif Nat.blt pc 13 then
(bif Nat.beq pc 10 then en (.goto 7) 17 0 0 0 else none) else
(bif Nat.beq pc 13 then en (.astore 4) 0 0 0 0 else none))) else
(bif Nat.blt pc 17 then
(bif Nat.blt pc 16 then
(bif Nat.beq pc 15 then en (.iconst 1) 0 0 0 0 else none) else
(bif Nat.beq pc 16 then en (.ireturn) 0 0 0 0 else none)) else
(bif Nat.blt pc 18 then
(bif Nat.beq pc 17 then en (.iconst 0) 0 0 0 0 else none) else
(bif Nat.beq pc 18 then en (.ireturn) 0 0 0 0 else none))))) else none
/-- SingleTrackLineLaw.distanceByPositions(LSingleTrackLine;II[J)I -/
def mc258 (pc : Nat) : Option En := bif Nat.blt pc 19 then (bif Nat.blt pc 9 then
(bif Nat.blt pc 3 then
(bif Nat.blt pc 1 then
(bif Nat.beq pc 0 then en (.aload_n 3) 0 0 0 0 else none) else
(bif Nat.blt pc 2 then
(bif Nat.beq pc 1 then en (.iconst 0) 0 0 0 0 else none) else
(bif Nat.beq pc 2 then en (.aload_n 0) 0 0 0 0 else none))) else
(bif Nat.blt pc 5 then
(bif Nat.blt pc 4 then
(bif Nat.beq pc 3 then en (.iload_n 1) 0 0 0 0 else none) else
(bif Nat.beq pc 4 then en (.iload_n 2) 0 0 0 0 else none)) else
(bif Nat.blt pc 8 then
(bif Nat.beq pc 5 then en (.invokevirtual 63) 108 0 1164 116600 else none) else
(bif Nat.beq pc 8 then en (.i2l) 0 0 0 0 else none)))) else
(bif Nat.blt pc 15 then
(bif Nat.blt pc 10 then
(bif Nat.beq pc 9 then en (.lastore) 0 0 0 0 else none) else
(bif Nat.blt pc 13 then
(bif Nat.beq pc 10 then en (.goto 7) 17 0 0 0 else none) else
(bif Nat.beq pc 13 then en (.astore 4) 0 0 0 0 else none))) else
(bif Nat.blt pc 17 then
(bif Nat.blt pc 16 then
(bif Nat.beq pc 15 then en (.iconst 1) 0 0 0 0 else none) else
(bif Nat.beq pc 16 then en (.ireturn) 0 0 0 0 else none)) else
(bif Nat.blt pc 18 then
(bif Nat.beq pc 17 then en (.iconst 0) 0 0 0 0 else none) else
(bif Nat.beq pc 18 then en (.ireturn) 0 0 0 0 else none))))) else none
/-- SingleTrackLineLaw.isExpected(LSingleTrackLine;I[J)I -/
def mc259 (pc : Nat) : Option En := bif Nat.blt pc 24 then (bif Nat.blt pc 14 then
(bif Nat.blt pc 4 then
(bif Nat.blt pc 2 then
(bif Nat.blt pc 1 then
(bif Nat.beq pc 0 then en (.aload_n 2) 0 0 0 0 else none) else
(bif Nat.beq pc 1 then en (.iconst 0) 0 0 0 0 else none)) else
(bif Nat.blt pc 3 then
(bif Nat.beq pc 2 then en (.aload_n 0) 0 0 0 0 else none) else
(bif Nat.beq pc 3 then en (.iload_n 1) 0 0 0 0 else none))) else
(bif Nat.blt pc 10 then
(bif Nat.blt pc 7 then
(bif Nat.beq pc 4 then en (.invokevirtual 66) 113 0 1172 117400 else none) else
(bif Nat.beq pc 7 then en (.ifCond .eq 7) 14 0 0 0 else none)) else
(bif Nat.blt pc 11 then
(bif Nat.beq pc 10 then en (.lconst 1) 0 0 0 0 else none) else
(bif Nat.beq pc 11 then en (.goto 4) 15 0 0 0 else none)))) else
(bif Nat.blt pc 20 then
(bif Nat.blt pc 16 then
(bif Nat.blt pc 15 then
(bif Nat.beq pc 14 then en (.lconst 0) 0 0 0 0 else none) else
(bif Nat.beq pc 15 then en (.lastore) 0 0 0 0 else none)) else
(bif Nat.blt pc 19 then
(bif Nat.beq pc 16 then en (.goto 6) 22 0 0 0 else none) else
(bif Nat.beq pc 19 then en (.astore_n 3) 0 0 0 0 else none))) else
(bif Nat.blt pc 22 then
(bif Nat.blt pc 21 then
(bif Nat.beq pc 20 then en (.iconst 1) 0 0 0 0 else none) else
(bif Nat.beq pc 21 then en (.ireturn) 0 0 0 0 else none)) else
(bif Nat.blt pc 23 then
(bif Nat.beq pc 22 then en (.iconst 0) 0 0 0 0 else none) else
(bif Nat.beq pc 23 then en (.ireturn) 0 0 0 0 else none))))) else none
/-- SingleTrackLineLaw.isHeld(LSingleTrackLine;I[J)I -/
def mc260 (pc : Nat) : Option En := bif Nat.blt pc 24 then (bif Nat.blt pc 14 then
(bif Nat.blt pc 4 then
(bif Nat.blt pc 2 then
(bif Nat.blt pc 1 then
(bif Nat.beq pc 0 then en (.aload_n 2) 0 0 0 0 else none) else
(bif Nat.beq pc 1 then en (.iconst 0) 0 0 0 0 else none)) else
(bif Nat.blt pc 3 then
(bif Nat.beq pc 2 then en (.aload_n 0) 0 0 0 0 else none) else
(bif Nat.beq pc 3 then en (.iload_n 1) 0 0 0 0 else none))) else
(bif Nat.blt pc 10 then
(bif Nat.blt pc 7 then
(bif Nat.beq pc 4 then en (.invokevirtual 69) 114 0 1184 118600 else none) else
(bif Nat.beq pc 7 then en (.ifCond .eq 7) 14 0 0 0 else none)) else
(bif Nat.blt pc 11 then
(bif Nat.beq pc 10 then en (.lconst 1) 0 0 0 0 else none) else
(bif Nat.beq pc 11 then en (.goto 4) 15 0 0 0 else none)))) else
(bif Nat.blt pc 20 then
(bif Nat.blt pc 16 then
(bif Nat.blt pc 15 then
(bif Nat.beq pc 14 then en (.lconst 0) 0 0 0 0 else none) else
(bif Nat.beq pc 15 then en (.lastore) 0 0 0 0 else none)) else
(bif Nat.blt pc 19 then
(bif Nat.beq pc 16 then en (.goto 6) 22 0 0 0 else none) else
(bif Nat.beq pc 19 then en (.astore_n 3) 0 0 0 0 else none))) else
(bif Nat.blt pc 22 then
(bif Nat.blt pc 21 then
(bif Nat.beq pc 20 then en (.iconst 1) 0 0 0 0 else none) else
(bif Nat.beq pc 21 then en (.ireturn) 0 0 0 0 else none)) else
(bif Nat.blt pc 23 then
(bif Nat.beq pc 22 then en (.iconst 0) 0 0 0 0 else none) else
(bif Nat.beq pc 23 then en (.ireturn) 0 0 0 0 else none))))) else none
/-- SingleTrackLineLaw.stationOf(LSingleTrackLine;I[J)I -/
def mc261 (pc : Nat) : Option En := bif Nat.blt pc 20 then (bif Nat.blt pc 12 then
(bif Nat.blt pc 4 then
(bif Nat.blt pc 2 then
(bif Nat.blt pc 1 then
(bif Nat.beq pc 0 then en (.aload_n 2) 0 0 0 0 else none) else
(bif Nat.beq pc 1 then en (.iconst 0) 0 0 0 0 else none)) else
(bif Nat.blt pc 3 then
(bif Nat.beq pc 2 then en (.aload_n 0) 0 0 0 0 else none) else
(bif Nat.beq pc 3 then en (.iload_n 1) 0 0 0 0 else none))) else
(bif Nat.blt pc 8 then
(bif Nat.blt pc 7 then
(bif Nat.beq pc 4 then en (.invokevirtual 72) 115 0 1191 119300 else none) else
(bif Nat.beq pc 7 then en (.i2l) 0 0 0 0 else none)) else
(bif Nat.blt pc 9 then
(bif Nat.beq pc 8 then en (.lastore) 0 0 0 0 else none) else
(bif Nat.beq pc 9 then en (.goto 9) 18 0 0 0 else none)))) else
(bif Nat.blt pc 16 then
(bif Nat.blt pc 14 then
(bif Nat.blt pc 13 then
(bif Nat.beq pc 12 then en (.astore_n 3) 0 0 0 0 else none) else
(bif Nat.beq pc 13 then en (.iconst 1) 0 0 0 0 else none)) else
(bif Nat.blt pc 15 then
(bif Nat.beq pc 14 then en (.ireturn) 0 0 0 0 else none) else
(bif Nat.beq pc 15 then en (.astore_n 3) 0 0 0 0 else none))) else
(bif Nat.blt pc 18 then
(bif Nat.blt pc 17 then
(bif Nat.beq pc 16 then en (.iconst 2) 0 0 0 0 else none) else
(bif Nat.beq pc 17 then en (.ireturn) 0 0 0 0 else none)) else
(bif Nat.blt pc 19 then
(bif Nat.beq pc 18 then en (.iconst 0) 0 0 0 0 else none) else
(bif Nat.beq pc 19 then en (.ireturn) 0 0 0 0 else none))))) else none
/-- SingleTrackLineLaw.sectionOf(LSingleTrackLine;I[J)I -/
def mc262 (pc : Nat) : Option En := bif Nat.blt pc 20 then (bif Nat.blt pc 12 then
(bif Nat.blt pc 4 then
(bif Nat.blt pc 2 then
(bif Nat.blt pc 1 then
(bif Nat.beq pc 0 then en (.aload_n 2) 0 0 0 0 else none) else
(bif Nat.beq pc 1 then en (.iconst 0) 0 0 0 0 else none)) else
(bif Nat.blt pc 3 then
(bif Nat.beq pc 2 then en (.aload_n 0) 0 0 0 0 else none) else
(bif Nat.beq pc 3 then en (.iload_n 1) 0 0 0 0 else none))) else
(bif Nat.blt pc 8 then
(bif Nat.blt pc 7 then
(bif Nat.beq pc 4 then en (.invokevirtual 75) 116 0 1200 120200 else none) else
(bif Nat.beq pc 7 then en (.i2l) 0 0 0 0 else none)) else
(bif Nat.blt pc 9 then
(bif Nat.beq pc 8 then en (.lastore) 0 0 0 0 else none) else
(bif Nat.beq pc 9 then en (.goto 9) 18 0 0 0 else none)))) else
(bif Nat.blt pc 16 then
(bif Nat.blt pc 14 then
(bif Nat.blt pc 13 then
(bif Nat.beq pc 12 then en (.astore_n 3) 0 0 0 0 else none) else
(bif Nat.beq pc 13 then en (.iconst 1) 0 0 0 0 else none)) else
(bif Nat.blt pc 15 then
(bif Nat.beq pc 14 then en (.ireturn) 0 0 0 0 else none) else
(bif Nat.beq pc 15 then en (.astore_n 3) 0 0 0 0 else none))) else
(bif Nat.blt pc 18 then
(bif Nat.blt pc 17 then
(bif Nat.beq pc 16 then en (.iconst 2) 0 0 0 0 else none) else
(bif Nat.beq pc 17 then en (.ireturn) 0 0 0 0 else none)) else
(bif Nat.blt pc 19 then
(bif Nat.beq pc 18 then en (.iconst 0) 0 0 0 0 else none) else
(bif Nat.beq pc 19 then en (.ireturn) 0 0 0 0 else none))))) else none
/-- SingleTrackLineLaw.remainingTime(LSingleTrackLine;I[J)I -/
def mc263 (pc : Nat) : Option En := bif Nat.blt pc 20 then (bif Nat.blt pc 12 then
(bif Nat.blt pc 4 then
(bif Nat.blt pc 2 then
(bif Nat.blt pc 1 then
(bif Nat.beq pc 0 then en (.aload_n 2) 0 0 0 0 else none) else
(bif Nat.beq pc 1 then en (.iconst 0) 0 0 0 0 else none)) else
(bif Nat.blt pc 3 then
(bif Nat.beq pc 2 then en (.aload_n 0) 0 0 0 0 else none) else
(bif Nat.beq pc 3 then en (.iload_n 1) 0 0 0 0 else none))) else
(bif Nat.blt pc 8 then
(bif Nat.blt pc 7 then
(bif Nat.beq pc 4 then en (.invokevirtual 78) 117 0 1213 121500 else none) else
(bif Nat.beq pc 7 then en (.i2l) 0 0 0 0 else none)) else
(bif Nat.blt pc 9 then
(bif Nat.beq pc 8 then en (.lastore) 0 0 0 0 else none) else
(bif Nat.beq pc 9 then en (.goto 9) 18 0 0 0 else none)))) else
(bif Nat.blt pc 16 then
(bif Nat.blt pc 14 then
(bif Nat.blt pc 13 then
(bif Nat.beq pc 12 then en (.astore_n 3) 0 0 0 0 else none) else
(bif Nat.beq pc 13 then en (.iconst 1) 0 0 0 0 else none)) else
(bif Nat.blt pc 15 then
(bif Nat.beq pc 14 then en (.ireturn) 0 0 0 0 else none) else
(bif Nat.beq pc 15 then en (.astore_n 3) 0 0 0 0 else none))) else
(bif Nat.blt pc 18 then
(bif Nat.blt pc 17 then
(bif Nat.beq pc 16 then en (.iconst 2) 0 0 0 0 else none) else
(bif Nat.beq pc 17 then en (.ireturn) 0 0 0 0 else none)) else
(bif Nat.blt pc 19 then
(bif Nat.beq pc 18 then en (.iconst 0) 0 0 0 0 else none) else
(bif Nat.beq pc 19 then en (.ireturn) 0 0 0 0 else none))))) else none
/-- SingleTrackLineLaw.waitedMinutes(LSingleTrackLine;I[J)I -/
def mc264 (pc : Nat) : Option En := bif Nat.blt pc 17 then (bif Nat.blt pc 8 then
(bif Nat.blt pc 3 then
(bif Nat.blt pc 1 then
(bif Nat.beq pc 0 then en (.aload_n 2) 0 0 0 0 else none) else
(bif Nat.blt pc 2 then
(bif Nat.beq pc 1 then en (.iconst 0) 0 0 0 0 else none) else
(bif Nat.beq pc 2 then en (.aload_n 0) 0 0 0 0 else none))) else
(bif Nat.blt pc 4 then
(bif Nat.beq pc 3 then en (.iload_n 1) 0 0 0 0 else none) else
(bif Nat.blt pc 7 then
(bif Nat.beq pc 4 then en (.invokevirtual 81) 118 0 1220 122200 else none) else
(bif Nat.beq pc 7 then en (.i2l) 0 0 0 0 else none)))) else
(bif Nat.blt pc 13 then
(bif Nat.blt pc 9 then
(bif Nat.beq pc 8 then en (.lastore) 0 0 0 0 else none) else
(bif Nat.blt pc 12 then
(bif Nat.beq pc 9 then en (.goto 6) 15 0 0 0 else none) else
(bif Nat.beq pc 12 then en (.astore_n 3) 0 0 0 0 else none))) else
(bif Nat.blt pc 15 then
(bif Nat.blt pc 14 then
(bif Nat.beq pc 13 then en (.iconst 1) 0 0 0 0 else none) else
(bif Nat.beq pc 14 then en (.ireturn) 0 0 0 0 else none)) else
(bif Nat.blt pc 16 then
(bif Nat.beq pc 15 then en (.iconst 0) 0 0 0 0 else none) else
(bif Nat.beq pc 16 then en (.ireturn) 0 0 0 0 else none))))) else none
/-- SingleTrackLineLaw.plannedArrival(LSingleTrackLine;I[J)I -/
def mc265 (pc : Nat) : Option En := bif Nat.blt pc 17 then (bif Nat.blt pc 8 then
(bif Nat.blt pc 3 then
(bif Nat.blt pc 1 then
(bif Nat.beq pc 0 then en (.aload_n 2) 0 0 0 0 else none) else
(bif Nat.blt pc 2 then
(bif Nat.beq pc 1 then en (.iconst 0) 0 0 0 0 else none) else
(bif Nat.beq pc 2 then en (.aload_n 0) 0 0 0 0 else none))) else
(bif Nat.blt pc 4 then
(bif Nat.beq pc 3 then en (.iload_n 1) 0 0 0 0 else none) else
(bif Nat.blt pc 7 then
(bif Nat.beq pc 4 then en (.invokevirtual 84) 119 0 1227 122900 else none) else
(bif Nat.beq pc 7 then en (.i2l) 0 0 0 0 else none)))) else
(bif Nat.blt pc 13 then
(bif Nat.blt pc 9 then
(bif Nat.beq pc 8 then en (.lastore) 0 0 0 0 else none) else
(bif Nat.blt pc 12 then
(bif Nat.beq pc 9 then en (.goto 6) 15 0 0 0 else none) else
(bif Nat.beq pc 12 then en (.astore_n 3) 0 0 0 0 else none))) else
(bif Nat.blt pc 15 then
(bif Nat.blt pc 14 then
(bif Nat.beq pc 13 then en (.iconst 1) 0 0 0 0 else none) else
(bif Nat.beq pc 14 then en (.ireturn) 0 0 0 0 else none)) else
(bif Nat.blt pc 16 then
(bif Nat.beq pc 15 then en (.iconst 0) 0 0 0 0 else none) else
(bif Nat.beq pc 16 then en (.ireturn) 0 0 0 0 else none))))) else none
/-- SingleTrackLineLaw.arrivalAlone(LSingleTrackLine;I[J)I -/
def mc266 (pc : Nat) : Option En := bif Nat.blt pc 20 then (bif Nat.blt pc 12 then
(bif Nat.blt pc 4 then
(bif Nat.blt pc 2 then
(bif Nat.blt pc 1 then
(bif Nat.beq pc 0 then en (.aload_n 2) 0 0 0 0 else none) else
(bif Nat.beq pc 1 then en (.iconst 0) 0 0 0 0 else none)) else
(bif Nat.blt pc 3 then
(bif Nat.beq pc 2 then en (.aload_n 0) 0 0 0 0 else none) else
(bif Nat.beq pc 3 then en (.iload_n 1) 0 0 0 0 else none))) else
(bif Nat.blt pc 8 then
(bif Nat.blt pc 7 then
(bif Nat.beq pc 4 then en (.invokevirtual 87) 120 0 1234 123600 else none) else
(bif Nat.beq pc 7 then en (.i2l) 0 0 0 0 else none)) else
(bif Nat.blt pc 9 then
(bif Nat.beq pc 8 then en (.lastore) 0 0 0 0 else none) else
(bif Nat.beq pc 9 then en (.goto 9) 18 0 0 0 else none)))) else
(bif Nat.blt pc 16 then
(bif Nat.blt pc 14 then
(bif Nat.blt pc 13 then
(bif Nat.beq pc 12 then en (.astore_n 3) 0 0 0 0 else none) else
(bif Nat.beq pc 13 then en (.iconst 1) 0 0 0 0 else none)) else
(bif Nat.blt pc 15 then
(bif Nat.beq pc 14 then en (.ireturn) 0 0 0 0 else none) else
(bif Nat.beq pc 15 then en (.astore_n 3) 0 0 0 0 else none))) else
(bif Nat.blt pc 18 then
(bif Nat.blt pc 17 then
(bif Nat.beq pc 16 then en (.iconst 2) 0 0 0 0 else none) else
(bif Nat.beq pc 17 then en (.ireturn) 0 0 0 0 else none)) else
(bif Nat.blt pc 19 then
(bif Nat.beq pc 18 then en (.iconst 0) 0 0 0 0 else none) else
(bif Nat.beq pc 19 then en (.ireturn) 0 0 0 0 else none))))) else none
/-- SingleTrackLineLaw.predictedArrival(LSingleTrackLine;I[J)I -/
def mc267 (pc : Nat) : Option En := bif Nat.blt pc 17 then (bif Nat.blt pc 8 then
(bif Nat.blt pc 3 then
(bif Nat.blt pc 1 then
(bif Nat.beq pc 0 then en (.aload_n 2) 0 0 0 0 else none) else
(bif Nat.blt pc 2 then
(bif Nat.beq pc 1 then en (.iconst 0) 0 0 0 0 else none) else
(bif Nat.beq pc 2 then en (.aload_n 0) 0 0 0 0 else none))) else
(bif Nat.blt pc 4 then
(bif Nat.beq pc 3 then en (.iload_n 1) 0 0 0 0 else none) else
(bif Nat.blt pc 7 then
(bif Nat.beq pc 4 then en (.invokevirtual 90) 121 0 1245 124700 else none) else
(bif Nat.beq pc 7 then en (.i2l) 0 0 0 0 else none)))) else
(bif Nat.blt pc 13 then
(bif Nat.blt pc 9 then
(bif Nat.beq pc 8 then en (.lastore) 0 0 0 0 else none) else
(bif Nat.blt pc 12 then
(bif Nat.beq pc 9 then en (.goto 6) 15 0 0 0 else none) else
(bif Nat.beq pc 12 then en (.astore_n 3) 0 0 0 0 else none))) else
(bif Nat.blt pc 15 then
(bif Nat.blt pc 14 then
(bif Nat.beq pc 13 then en (.iconst 1) 0 0 0 0 else none) else
(bif Nat.beq pc 14 then en (.ireturn) 0 0 0 0 else none)) else
(bif Nat.blt pc 16 then
(bif Nat.beq pc 15 then en (.iconst 0) 0 0 0 0 else none) else
(bif Nat.beq pc 16 then en (.ireturn) 0 0 0 0 else none))))) else none
/-- SingleTrackLineLaw.trainAtRank(LSingleTrackLine;I[J)I -/
def mc268 (pc : Nat) : Option En := bif Nat.blt pc 17 then (bif Nat.blt pc 8 then
(bif Nat.blt pc 3 then
(bif Nat.blt pc 1 then
(bif Nat.beq pc 0 then en (.aload_n 2) 0 0 0 0 else none) else
(bif Nat.blt pc 2 then
(bif Nat.beq pc 1 then en (.iconst 0) 0 0 0 0 else none) else
(bif Nat.beq pc 2 then en (.aload_n 0) 0 0 0 0 else none))) else
(bif Nat.blt pc 4 then
(bif Nat.beq pc 3 then en (.iload_n 1) 0 0 0 0 else none) else
(bif Nat.blt pc 7 then
(bif Nat.beq pc 4 then en (.invokevirtual 93) 123 0 1253 125500 else none) else
(bif Nat.beq pc 7 then en (.i2l) 0 0 0 0 else none)))) else
(bif Nat.blt pc 13 then
(bif Nat.blt pc 9 then
(bif Nat.beq pc 8 then en (.lastore) 0 0 0 0 else none) else
(bif Nat.blt pc 12 then
(bif Nat.beq pc 9 then en (.goto 6) 15 0 0 0 else none) else
(bif Nat.beq pc 12 then en (.astore_n 3) 0 0 0 0 else none))) else
(bif Nat.blt pc 15 then
(bif Nat.blt pc 14 then
(bif Nat.beq pc 13 then en (.iconst 1) 0 0 0 0 else none) else
(bif Nat.beq pc 14 then en (.ireturn) 0 0 0 0 else none)) else
(bif Nat.blt pc 16 then
(bif Nat.beq pc 15 then en (.iconst 0) 0 0 0 0 else none) else
(bif Nat.beq pc 16 then en (.ireturn) 0 0 0 0 else none))))) else none
/-- SingleTrackLineLaw.lastFinished(LSingleTrackLine;[J)I -/
def mc269 (pc : Nat) : Option En := bif Nat.blt pc 16 then (bif Nat.blt pc 8 then
(bif Nat.blt pc 3 then
(bif Nat.blt pc 1 then
(bif Nat.beq pc 0 then en (.aload_n 1) 0 0 0 0 else none) else
(bif Nat.blt pc 2 then
(bif Nat.beq pc 1 then en (.iconst 0) 0 0 0 0 else none) else
(bif Nat.beq pc 2 then en (.aload_n 0) 0 0 0 0 else none))) else
(bif Nat.blt pc 6 then
(bif Nat.beq pc 3 then en (.invokevirtual 96) 128 0 1270 127200 else none) else
(bif Nat.blt pc 7 then
(bif Nat.beq pc 6 then en (.i2l) 0 0 0 0 else none) else
(bif Nat.beq pc 7 then en (.lastore) 0 0 0 0 else none)))) else
(bif Nat.blt pc 13 then
(bif Nat.blt pc 11 then
(bif Nat.beq pc 8 then en (.goto 6) 14 0 0 0 else none) else
(bif Nat.blt pc 12 then
(bif Nat.beq pc 11 then en (.astore_n 2) 0 0 0 0 else none) else
(bif Nat.beq pc 12 then en (.iconst 1) 0 0 0 0 else none))) else
(bif Nat.blt pc 14 then
(bif Nat.beq pc 13 then en (.ireturn) 0 0 0 0 else none) else
(bif Nat.blt pc 15 then
(bif Nat.beq pc 14 then en (.iconst 0) 0 0 0 0 else none) else
(bif Nat.beq pc 15 then en (.ireturn) 0 0 0 0 else none))))) else none
/-- SingleTrackLineLaw.greatestDelay(LSingleTrackLine;[J)I -/
def mc270 (pc : Nat) : Option En := bif Nat.blt pc 16 then (bif Nat.blt pc 8 then
(bif Nat.blt pc 3 then
(bif Nat.blt pc 1 then
(bif Nat.beq pc 0 then en (.aload_n 1) 0 0 0 0 else none) else
(bif Nat.blt pc 2 then
(bif Nat.beq pc 1 then en (.iconst 0) 0 0 0 0 else none) else
(bif Nat.beq pc 2 then en (.aload_n 0) 0 0 0 0 else none))) else
(bif Nat.blt pc 6 then
(bif Nat.beq pc 3 then en (.invokevirtual 100) 130 0 1282 128400 else none) else
(bif Nat.blt pc 7 then
(bif Nat.beq pc 6 then en (.i2l) 0 0 0 0 else none) else
(bif Nat.beq pc 7 then en (.lastore) 0 0 0 0 else none)))) else
(bif Nat.blt pc 13 then
(bif Nat.blt pc 11 then
(bif Nat.beq pc 8 then en (.goto 6) 14 0 0 0 else none) else
(bif Nat.blt pc 12 then
(bif Nat.beq pc 11 then en (.astore_n 2) 0 0 0 0 else none) else
(bif Nat.beq pc 12 then en (.iconst 1) 0 0 0 0 else none))) else
(bif Nat.blt pc 14 then
(bif Nat.beq pc 13 then en (.ireturn) 0 0 0 0 else none) else
(bif Nat.blt pc 15 then
(bif Nat.beq pc 14 then en (.iconst 0) 0 0 0 0 else none) else
(bif Nat.beq pc 15 then en (.ireturn) 0 0 0 0 else none))))) else none
/-- SingleTrackLineLaw.meanDelay(LSingleTrackLine;[D)I -/
def mc271 (pc : Nat) : Option En := bif Nat.blt pc 15 then (bif Nat.blt pc 7 then
(bif Nat.blt pc 2 then
(bif Nat.blt pc 1 then
(bif Nat.beq pc 0 then en (.aload_n 1) 0 0 0 0 else none) else
(bif Nat.beq pc 1 then en (.iconst 0) 0 0 0 0 else none)) else
(bif Nat.blt pc 3 then
(bif Nat.beq pc 2 then en (.aload_n 0) 0 0 0 0 else none) else
(bif Nat.blt pc 6 then
(bif Nat.beq pc 3 then en (.invokevirtual 103) 131 0 1303 130500 else none) else
(bif Nat.beq pc 6 then en (.dastore) 0 0 0 0 else none)))) else
(bif Nat.blt pc 12 then
(bif Nat.blt pc 10 then
(bif Nat.beq pc 7 then en (.goto 6) 13 0 0 0 else none) else
(bif Nat.blt pc 11 then
(bif Nat.beq pc 10 then en (.astore_n 2) 0 0 0 0 else none) else
(bif Nat.beq pc 11 then en (.iconst 1) 0 0 0 0 else none))) else
(bif Nat.blt pc 13 then
(bif Nat.beq pc 12 then en (.ireturn) 0 0 0 0 else none) else
(bif Nat.blt pc 14 then
(bif Nat.beq pc 13 then en (.iconst 0) 0 0 0 0 else none) else
(bif Nat.beq pc 14 then en (.ireturn) 0 0 0 0 else none))))) else none
/-- SingleTrackLineLaw.punctualShare(LSingleTrackLine;[D)I -/
def mc272 (pc : Nat) : Option En := bif Nat.blt pc 16 then (bif Nat.blt pc 8 then
(bif Nat.blt pc 3 then
(bif Nat.blt pc 1 then
(bif Nat.beq pc 0 then en (.aload_n 1) 0 0 0 0 else none) else
(bif Nat.blt pc 2 then
(bif Nat.beq pc 1 then en (.iconst 0) 0 0 0 0 else none) else
(bif Nat.beq pc 2 then en (.aload_n 0) 0 0 0 0 else none))) else
(bif Nat.blt pc 6 then
(bif Nat.beq pc 3 then en (.invokevirtual 109) 132 0 1312 131400 else none) else
(bif Nat.blt pc 7 then
(bif Nat.beq pc 6 then en (.f2d) 0 0 0 0 else none) else
(bif Nat.beq pc 7 then en (.dastore) 0 0 0 0 else none)))) else
(bif Nat.blt pc 13 then
(bif Nat.blt pc 11 then
(bif Nat.beq pc 8 then en (.goto 6) 14 0 0 0 else none) else
(bif Nat.blt pc 12 then
(bif Nat.beq pc 11 then en (.astore_n 2) 0 0 0 0 else none) else
(bif Nat.beq pc 12 then en (.iconst 1) 0 0 0 0 else none))) else
(bif Nat.blt pc 14 then
(bif Nat.beq pc 13 then en (.ireturn) 0 0 0 0 else none) else
(bif Nat.blt pc 15 then
(bif Nat.beq pc 14 then en (.iconst 0) 0 0 0 0 else none) else
(bif Nat.beq pc 15 then en (.ireturn) 0 0 0 0 else none))))) else none
/-- SingleTrackLineLaw.append(LSingleTrackLine;C[J)I -/
def mc273 (pc : Nat) : Option En := bif Nat.blt pc 17 then (bif Nat.blt pc 8 then
(bif Nat.blt pc 3 then
(bif Nat.blt pc 1 then
(bif Nat.beq pc 0 then en (.aload_n 2) 0 0 0 0 else none) else
(bif Nat.blt pc 2 then
(bif Nat.beq pc 1 then en (.iconst 0) 0 0 0 0 else none) else
(bif Nat.beq pc 2 then en (.aload_n 0) 0 0 0 0 else none))) else
(bif Nat.blt pc 4 then
(bif Nat.beq pc 3 then en (.iload_n 1) 0 0 0 0 else none) else
(bif Nat.blt pc 7 then
(bif Nat.beq pc 4 then en (.invokevirtual 113) 135 0 1319 132100 else none) else
(bif Nat.beq pc 7 then en (.i2l) 0 0 0 0 else none)))) else
(bif Nat.blt pc 13 then
(bif Nat.blt pc 9 then
(bif Nat.beq pc 8 then en (.lastore) 0 0 0 0 else none) else
(bif Nat.blt pc 12 then
(bif Nat.beq pc 9 then en (.goto 6) 15 0 0 0 else none) else
(bif Nat.beq pc 12 then en (.astore_n 3) 0 0 0 0 else none))) else
(bif Nat.blt pc 15 then
(bif Nat.blt pc 14 then
(bif Nat.beq pc 13 then en (.iconst 1) 0 0 0 0 else none) else
(bif Nat.beq pc 14 then en (.ireturn) 0 0 0 0 else none)) else
(bif Nat.blt pc 16 then
(bif Nat.beq pc 15 then en (.iconst 0) 0 0 0 0 else none) else
(bif Nat.beq pc 16 then en (.ireturn) 0 0 0 0 else none))))) else none
/-- SingleTrackLineLaw.run(LSingleTrackLine;[J)I -/
def mc274 (pc : Nat) : Option En := bif Nat.blt pc 19 then (bif Nat.blt pc 11 then
(bif Nat.blt pc 3 then
(bif Nat.blt pc 1 then
(bif Nat.beq pc 0 then en (.aload_n 1) 0 0 0 0 else none) else
(bif Nat.blt pc 2 then
(bif Nat.beq pc 1 then en (.iconst 0) 0 0 0 0 else none) else
(bif Nat.beq pc 2 then en (.aload_n 0) 0 0 0 0 else none))) else
(bif Nat.blt pc 7 then
(bif Nat.blt pc 6 then
(bif Nat.beq pc 3 then en (.invokevirtual 117) 136 0 1337 133900 else none) else
(bif Nat.beq pc 6 then en (.i2l) 0 0 0 0 else none)) else
(bif Nat.blt pc 8 then
(bif Nat.beq pc 7 then en (.lastore) 0 0 0 0 else none) else
(bif Nat.beq pc 8 then en (.goto 9) 17 0 0 0 else none)))) else
(bif Nat.blt pc 15 then
(bif Nat.blt pc 13 then
(bif Nat.blt pc 12 then
(bif Nat.beq pc 11 then en (.astore_n 2) 0 0 0 0 else none) else
(bif Nat.beq pc 12 then en (.iconst 1) 0 0 0 0 else none)) else
(bif Nat.blt pc 14 then
(bif Nat.beq pc 13 then en (.ireturn) 0 0 0 0 else none) else
(bif Nat.beq pc 14 then en (.astore_n 2) 0 0 0 0 else none))) else
(bif Nat.blt pc 17 then
(bif Nat.blt pc 16 then
(bif Nat.beq pc 15 then en (.iconst 2) 0 0 0 0 else none) else
(bif Nat.beq pc 16 then en (.ireturn) 0 0 0 0 else none)) else
(bif Nat.blt pc 18 then
(bif Nat.beq pc 17 then en (.iconst 0) 0 0 0 0 else none) else
(bif Nat.beq pc 18 then en (.ireturn) 0 0 0 0 else none))))) else none
/-- SingleTrackLineLaw.errorPosition(LSingleTrackLine;[J)I -/
def mc275 (pc : Nat) : Option En := bif Nat.blt pc 16 then (bif Nat.blt pc 8 then
(bif Nat.blt pc 3 then
(bif Nat.blt pc 1 then
(bif Nat.beq pc 0 then en (.aload_n 1) 0 0 0 0 else none) else
(bif Nat.blt pc 2 then
(bif Nat.beq pc 1 then en (.iconst 0) 0 0 0 0 else none) else
(bif Nat.beq pc 2 then en (.aload_n 0) 0 0 0 0 else none))) else
(bif Nat.blt pc 6 then
(bif Nat.beq pc 3 then en (.invokevirtual 122) 137 0 1429 143100 else none) else
(bif Nat.blt pc 7 then
(bif Nat.beq pc 6 then en (.i2l) 0 0 0 0 else none) else
(bif Nat.beq pc 7 then en (.lastore) 0 0 0 0 else none)))) else
(bif Nat.blt pc 13 then
(bif Nat.blt pc 11 then
(bif Nat.beq pc 8 then en (.goto 6) 14 0 0 0 else none) else
(bif Nat.blt pc 12 then
(bif Nat.beq pc 11 then en (.astore_n 2) 0 0 0 0 else none) else
(bif Nat.beq pc 12 then en (.iconst 1) 0 0 0 0 else none))) else
(bif Nat.blt pc 14 then
(bif Nat.beq pc 13 then en (.ireturn) 0 0 0 0 else none) else
(bif Nat.blt pc 15 then
(bif Nat.beq pc 14 then en (.iconst 0) 0 0 0 0 else none) else
(bif Nat.beq pc 15 then en (.ireturn) 0 0 0 0 else none))))) else none
/-- SingleTrackLineLaw.failedCommand(LSingleTrackLine;[J)I -/
def mc276 (pc : Nat) : Option En := bif Nat.blt pc 16 then (bif Nat.blt pc 8 then
(bif Nat.blt pc 3 then
(bif Nat.blt pc 1 then
(bif Nat.beq pc 0 then en (.aload_n 1) 0 0 0 0 else none) else
(bif Nat.blt pc 2 then
(bif Nat.beq pc 1 then en (.iconst 0) 0 0 0 0 else none) else
(bif Nat.beq pc 2 then en (.aload_n 0) 0 0 0 0 else none))) else
(bif Nat.blt pc 6 then
(bif Nat.beq pc 3 then en (.invokevirtual 125) 138 0 1437 143900 else none) else
(bif Nat.blt pc 7 then
(bif Nat.beq pc 6 then en (.i2l) 0 0 0 0 else none) else
(bif Nat.beq pc 7 then en (.lastore) 0 0 0 0 else none)))) else
(bif Nat.blt pc 13 then
(bif Nat.blt pc 11 then
(bif Nat.beq pc 8 then en (.goto 6) 14 0 0 0 else none) else
(bif Nat.blt pc 12 then
(bif Nat.beq pc 11 then en (.astore_n 2) 0 0 0 0 else none) else
(bif Nat.beq pc 12 then en (.iconst 1) 0 0 0 0 else none))) else
(bif Nat.blt pc 14 then
(bif Nat.beq pc 13 then en (.ireturn) 0 0 0 0 else none) else
(bif Nat.blt pc 15 then
(bif Nat.beq pc 14 then en (.iconst 0) 0 0 0 0 else none) else
(bif Nat.beq pc 15 then en (.ireturn) 0 0 0 0 else none))))) else none
/-- SingleTrackLineLaw.writeTrain(LSingleTrackLine;I[J)I -/
def mc277 (pc : Nat) : Option En := bif Nat.blt pc 17 then (bif Nat.blt pc 8 then
(bif Nat.blt pc 3 then
(bif Nat.blt pc 1 then
(bif Nat.beq pc 0 then en (.aload_n 2) 0 0 0 0 else none) else
(bif Nat.blt pc 2 then
(bif Nat.beq pc 1 then en (.iconst 0) 0 0 0 0 else none) else
(bif Nat.beq pc 2 then en (.aload_n 0) 0 0 0 0 else none))) else
(bif Nat.blt pc 4 then
(bif Nat.beq pc 3 then en (.iload_n 1) 0 0 0 0 else none) else
(bif Nat.blt pc 7 then
(bif Nat.beq pc 4 then en (.invokevirtual 128) 141 0 1445 144700 else none) else
(bif Nat.beq pc 7 then en (.i2l) 0 0 0 0 else none)))) else
(bif Nat.blt pc 13 then
(bif Nat.blt pc 9 then
(bif Nat.beq pc 8 then en (.lastore) 0 0 0 0 else none) else
(bif Nat.blt pc 12 then
(bif Nat.beq pc 9 then en (.goto 6) 15 0 0 0 else none) else
(bif Nat.beq pc 12 then en (.astore_n 3) 0 0 0 0 else none))) else
(bif Nat.blt pc 15 then
(bif Nat.blt pc 14 then
(bif Nat.beq pc 13 then en (.iconst 1) 0 0 0 0 else none) else
(bif Nat.beq pc 14 then en (.ireturn) 0 0 0 0 else none)) else
(bif Nat.blt pc 16 then
(bif Nat.beq pc 15 then en (.iconst 0) 0 0 0 0 else none) else
(bif Nat.beq pc 16 then en (.ireturn) 0 0 0 0 else none))))) else none
/-- SingleTrackLineLaw.outputAt(LSingleTrackLine;I[J)I -/
def mc278 (pc : Nat) : Option En := bif Nat.blt pc 17 then (bif Nat.blt pc 8 then
(bif Nat.blt pc 3 then
(bif Nat.blt pc 1 then
(bif Nat.beq pc 0 then en (.aload_n 2) 0 0 0 0 else none) else
(bif Nat.blt pc 2 then
(bif Nat.beq pc 1 then en (.iconst 0) 0 0 0 0 else none) else
(bif Nat.beq pc 2 then en (.aload_n 0) 0 0 0 0 else none))) else
(bif Nat.blt pc 4 then
(bif Nat.beq pc 3 then en (.iload_n 1) 0 0 0 0 else none) else
(bif Nat.blt pc 7 then
(bif Nat.beq pc 4 then en (.invokevirtual 131) 142 0 1452 145400 else none) else
(bif Nat.beq pc 7 then en (.i2l) 0 0 0 0 else none)))) else
(bif Nat.blt pc 13 then
(bif Nat.blt pc 9 then
(bif Nat.beq pc 8 then en (.lastore) 0 0 0 0 else none) else
(bif Nat.blt pc 12 then
(bif Nat.beq pc 9 then en (.goto 6) 15 0 0 0 else none) else
(bif Nat.beq pc 12 then en (.astore_n 3) 0 0 0 0 else none))) else
(bif Nat.blt pc 15 then
(bif Nat.blt pc 14 then
(bif Nat.beq pc 13 then en (.iconst 1) 0 0 0 0 else none) else
(bif Nat.beq pc 14 then en (.ireturn) 0 0 0 0 else none)) else
(bif Nat.blt pc 16 then
(bif Nat.beq pc 15 then en (.iconst 0) 0 0 0 0 else none) else
(bif Nat.beq pc 16 then en (.ireturn) 0 0 0 0 else none))))) else none
/-- SingleTrackLineLaw.undo(LSingleTrackLine;[J)I -/
def mc279 (pc : Nat) : Option En := bif Nat.blt pc 16 then (bif Nat.blt pc 8 then
(bif Nat.blt pc 3 then
(bif Nat.blt pc 1 then
(bif Nat.beq pc 0 then en (.aload_n 1) 0 0 0 0 else none) else
(bif Nat.blt pc 2 then
(bif Nat.beq pc 1 then en (.iconst 0) 0 0 0 0 else none) else
(bif Nat.beq pc 2 then en (.aload_n 0) 0 0 0 0 else none))) else
(bif Nat.blt pc 6 then
(bif Nat.beq pc 3 then en (.invokevirtual 135) 145 0 1470 147200 else none) else
(bif Nat.blt pc 7 then
(bif Nat.beq pc 6 then en (.i2l) 0 0 0 0 else none) else
(bif Nat.beq pc 7 then en (.lastore) 0 0 0 0 else none)))) else
(bif Nat.blt pc 13 then
(bif Nat.blt pc 11 then
(bif Nat.beq pc 8 then en (.goto 6) 14 0 0 0 else none) else
(bif Nat.blt pc 12 then
(bif Nat.beq pc 11 then en (.astore_n 2) 0 0 0 0 else none) else
(bif Nat.beq pc 12 then en (.iconst 1) 0 0 0 0 else none))) else
(bif Nat.blt pc 14 then
(bif Nat.beq pc 13 then en (.ireturn) 0 0 0 0 else none) else
(bif Nat.blt pc 15 then
(bif Nat.beq pc 14 then en (.iconst 0) 0 0 0 0 else none) else
(bif Nat.beq pc 15 then en (.ireturn) 0 0 0 0 else none))))) else none
/-- SingleTrackLineLaw.restore(LSingleTrackLine;)I -/
def mc280 (pc : Nat) : Option En := bif Nat.blt pc 12 then (bif Nat.blt pc 8 then
(bif Nat.blt pc 4 then
(bif Nat.blt pc 1 then
(bif Nat.beq pc 0 then en (.aload_n 0) 0 0 0 0 else none) else
(bif Nat.beq pc 1 then en (.invokevirtual 138) 147 0 1482 148400 else none)) else
(bif Nat.blt pc 7 then
(bif Nat.beq pc 4 then en (.goto 6) 10 0 0 0 else none) else
(bif Nat.beq pc 7 then en (.astore_n 1) 0 0 0 0 else none))) else
(bif Nat.blt pc 10 then
(bif Nat.blt pc 9 then
(bif Nat.beq pc 8 then en (.iconst 1) 0 0 0 0 else none) else
(bif Nat.beq pc 9 then en (.ireturn) 0 0 0 0 else none)) else
(bif Nat.blt pc 11 then
(bif Nat.beq pc 10 then en (.iconst 0) 0 0 0 0 else none) else
(bif Nat.beq pc 11 then en (.ireturn) 0 0 0 0 else none)))) else none
/-- SingleTrackLineLaw.law([I)Z -/
def mc281 (pc : Nat) : Option En := bif Nat.blt pc 2479 then (bif Nat.blt pc 1299 then
(bif Nat.blt pc 747 then
(bif Nat.blt pc 465 then
(bif Nat.blt pc 335 then
(bif Nat.blt pc 268 then
(bif Nat.blt pc 34 then
(bif Nat.blt pc 19 then
(bif Nat.blt pc 11 then
(bif Nat.blt pc 4 then
(bif Nat.blt pc 3 then
(bif Nat.beq pc 0 then en (.new 8) 0 0 111 0 else none) else
(bif Nat.beq pc 3 then en (.dup) 0 0 0 0 else none)) else
(bif Nat.blt pc 7 then
(bif Nat.beq pc 4 then en (.invokespecial 141) 90 2 113 0 else none) else
(bif Nat.blt pc 8 then
(bif Nat.beq pc 7 then en (.astore_n 1) 0 0 0 0 else none) else
(bif Nat.beq pc 8 then en (.new 142) 5 0 1487 0 else none)))) else
(bif Nat.blt pc 15 then
(bif Nat.blt pc 12 then
(bif Nat.beq pc 11 then en (.dup) 0 0 0 0 else none) else
(bif Nat.beq pc 12 then en (.invokespecial 144) 148 2 1489 0 else none)) else
(bif Nat.blt pc 16 then
(bif Nat.beq pc 15 then en (.astore_n 2) 0 0 0 0 else none) else
(bif Nat.blt pc 17 then
(bif Nat.beq pc 16 then en (.iconst 1) 0 0 0 0 else none) else
(bif Nat.beq pc 17 then en (.newarray .long) 0 0 0 0 else none))))) else
(bif Nat.blt pc 26 then
(bif Nat.blt pc 21 then
(bif Nat.blt pc 20 then
(bif Nat.beq pc 19 then en (.astore_n 3) 0 0 0 0 else none) else
(bif Nat.beq pc 20 then en (.iconst 1) 0 0 0 0 else none)) else
(bif Nat.blt pc 23 then
(bif Nat.beq pc 21 then en (.newarray .double) 0 0 0 0 else none) else
(bif Nat.blt pc 25 then
(bif Nat.beq pc 23 then en (.astore 4) 0 0 0 0 else none) else
(bif Nat.beq pc 25 then en (.iconst 0) 0 0 0 0 else none)))) else
(bif Nat.blt pc 31 then
(bif Nat.blt pc 28 then
(bif Nat.beq pc 26 then en (.istore 5) 0 0 0 0 else none) else
(bif Nat.blt pc 30 then
(bif Nat.beq pc 28 then en (.iload 5) 0 0 0 0 else none) else
(bif Nat.beq pc 30 then en (.aload_n 0) 0 0 0 0 else none))) else
(bif Nat.blt pc 32 then
(bif Nat.beq pc 31 then en (.arraylength) 0 0 0 0 else none) else
(bif Nat.blt pc 33 then
(bif Nat.beq pc 32 then en (.iconst 4) 0 0 0 0 else none) else
(bif Nat.beq pc 33 then en (.isub) 0 0 0 0 else none)))))) else
(bif Nat.blt pc 253 then
(bif Nat.blt pc 43 then
(bif Nat.blt pc 38 then
(bif Nat.blt pc 37 then
(bif Nat.beq pc 34 then en (.if_icmp .gt 2443) 2477 0 0 0 else none) else
(bif Nat.beq pc 37 then en (.aload_n 0) 0 0 0 0 else none)) else
(bif Nat.blt pc 40 then
(bif Nat.beq pc 38 then en (.iload 5) 0 0 0 0 else none) else
(bif Nat.blt pc 41 then
(bif Nat.beq pc 40 then en (.iaload) 0 0 0 0 else none) else
(bif Nat.beq pc 41 then en (.bipush 63) 0 0 0 0 else none)))) else
(bif Nat.blt pc 249 then
(bif Nat.blt pc 44 then
(bif Nat.beq pc 43 then en (.iand) 0 0 0 0 else none) else
(bif Nat.blt pc 248 then
(bif Nat.beq pc 44 then en (.tableswitch 2427 0 46 #[204, 272, 340, 420, 476, 532, 588, 644, 657, 713, 769, 825, 881, 944, 1000, 1068, 1136, 1149, 1174, 1237, 1300, 1356, 1412, 1468, 1524, 1580, 1636, 1692, 1705, 1761, 1774, 1787, 1831, 1845, 1889, 1954, 2020, 2033, 2091, 2135, 2179, 2223, 2236, 2292, 2348, 2392, 2403]) 204 0 0 0 else none) else
(bif Nat.beq pc 248 then en (.aload_n 1) 0 0 0 0 else none))) else
(bif Nat.blt pc 250 then
(bif Nat.beq pc 249 then en (.aload_n 0) 0 0 0 0 else none) else
(bif Nat.blt pc 252 then
(bif Nat.beq pc 250 then en (.iload 5) 0 0 0 0 else none) else
(bif Nat.beq pc 252 then en (.iconst 1) 0 0 0 0 else none))))) else
(bif Nat.blt pc 259 then
(bif Nat.blt pc 255 then
(bif Nat.blt pc 254 then
(bif Nat.beq pc 253 then en (.iadd) 0 0 0 0 else none) else
(bif Nat.beq pc 254 then en (.iaload) 0 0 0 0 else none)) else
(bif Nat.blt pc 256 then
(bif Nat.beq pc 255 then en (.aload_n 0) 0 0 0 0 else none) else
(bif Nat.blt pc 258 then
(bif Nat.beq pc 256 then en (.iload 5) 0 0 0 0 else none) else
(bif Nat.beq pc 258 then en (.iconst 2) 0 0 0 0 else none)))) else
(bif Nat.blt pc 262 then
(bif Nat.blt pc 260 then
(bif Nat.beq pc 259 then en (.iadd) 0 0 0 0 else none) else
(bif Nat.blt pc 261 then
(bif Nat.beq pc 260 then en (.iaload) 0 0 0 0 else none) else
(bif Nat.beq pc 261 then en (.aload_n 3) 0 0 0 0 else none))) else
(bif Nat.blt pc 265 then
(bif Nat.beq pc 262 then en (.invokestatic 145) 244 5 923 0 else none) else
(bif Nat.blt pc 267 then
(bif Nat.beq pc 265 then en (.istore 6) 0 0 0 0 else none) else
(bif Nat.beq pc 267 then en (.aload_n 2) 0 0 0 0 else none))))))) else
(bif Nat.blt pc 303 then
(bif Nat.blt pc 283 then
(bif Nat.blt pc 274 then
(bif Nat.blt pc 271 then
(bif Nat.blt pc 269 then
(bif Nat.beq pc 268 then en (.aload_n 0) 0 0 0 0 else none) else
(bif Nat.beq pc 269 then en (.iload 5) 0 0 0 0 else none)) else
(bif Nat.blt pc 272 then
(bif Nat.beq pc 271 then en (.iconst 1) 0 0 0 0 else none) else
(bif Nat.blt pc 273 then
(bif Nat.beq pc 272 then en (.iadd) 0 0 0 0 else none) else
(bif Nat.beq pc 273 then en (.iaload) 0 0 0 0 else none)))) else
(bif Nat.blt pc 278 then
(bif Nat.blt pc 275 then
(bif Nat.beq pc 274 then en (.aload_n 0) 0 0 0 0 else none) else
(bif Nat.blt pc 277 then
(bif Nat.beq pc 275 then en (.iload 5) 0 0 0 0 else none) else
(bif Nat.beq pc 277 then en (.iconst 2) 0 0 0 0 else none))) else
(bif Nat.blt pc 279 then
(bif Nat.beq pc 278 then en (.iadd) 0 0 0 0 else none) else
(bif Nat.blt pc 280 then
(bif Nat.beq pc 279 then en (.iaload) 0 0 0 0 else none) else
(bif Nat.beq pc 280 then en (.invokevirtual 150) 168 0 1567 156905 else none))))) else
(bif Nat.blt pc 294 then
(bif Nat.blt pc 286 then
(bif Nat.blt pc 285 then
(bif Nat.beq pc 283 then en (.istore 7) 0 0 0 0 else none) else
(bif Nat.beq pc 285 then en (.aload_n 2) 0 0 0 0 else none)) else
(bif Nat.blt pc 289 then
(bif Nat.beq pc 286 then en (.invokevirtual 151) 149 0 1563 156505 else none) else
(bif Nat.blt pc 291 then
(bif Nat.beq pc 289 then en (.iload 6) 0 0 0 0 else none) else
(bif Nat.beq pc 291 then en (.if_icmp .eq 5) 296 0 0 0 else none)))) else
(bif Nat.blt pc 298 then
(bif Nat.blt pc 295 then
(bif Nat.beq pc 294 then en (.iconst 0) 0 0 0 0 else none) else
(bif Nat.blt pc 296 then
(bif Nat.beq pc 295 then en (.ireturn) 0 0 0 0 else none) else
(bif Nat.beq pc 296 then en (.iload 6) 0 0 0 0 else none))) else
(bif Nat.blt pc 301 then
(bif Nat.beq pc 298 then en (.ifCond .ne 15) 313 0 0 0 else none) else
(bif Nat.blt pc 302 then
(bif Nat.beq pc 301 then en (.aload_n 3) 0 0 0 0 else none) else
(bif Nat.beq pc 302 then en (.iconst 0) 0 0 0 0 else none)))))) else
(bif Nat.blt pc 320 then
(bif Nat.blt pc 311 then
(bif Nat.blt pc 306 then
(bif Nat.blt pc 304 then
(bif Nat.beq pc 303 then en (.laload) 0 0 0 0 else none) else
(bif Nat.beq pc 304 then en (.iload 7) 0 0 0 0 else none)) else
(bif Nat.blt pc 307 then
(bif Nat.beq pc 306 then en (.i2l) 0 0 0 0 else none) else
(bif Nat.blt pc 308 then
(bif Nat.beq pc 307 then en (.lcmp) 0 0 0 0 else none) else
(bif Nat.beq pc 308 then en (.ifCond .eq 5) 313 0 0 0 else none)))) else
(bif Nat.blt pc 316 then
(bif Nat.blt pc 312 then
(bif Nat.beq pc 311 then en (.iconst 0) 0 0 0 0 else none) else
(bif Nat.blt pc 313 then
(bif Nat.beq pc 312 then en (.ireturn) 0 0 0 0 else none) else
(bif Nat.beq pc 313 then en (.goto 2158) 2471 0 0 0 else none))) else
(bif Nat.blt pc 317 then
(bif Nat.beq pc 316 then en (.aload_n 1) 0 0 0 0 else none) else
(bif Nat.blt pc 318 then
(bif Nat.beq pc 317 then en (.aload_n 0) 0 0 0 0 else none) else
(bif Nat.beq pc 318 then en (.iload 5) 0 0 0 0 else none))))) else
(bif Nat.blt pc 326 then
(bif Nat.blt pc 322 then
(bif Nat.blt pc 321 then
(bif Nat.beq pc 320 then en (.iconst 1) 0 0 0 0 else none) else
(bif Nat.beq pc 321 then en (.iadd) 0 0 0 0 else none)) else
(bif Nat.blt pc 323 then
(bif Nat.beq pc 322 then en (.iaload) 0 0 0 0 else none) else
(bif Nat.blt pc 324 then
(bif Nat.beq pc 323 then en (.aload_n 0) 0 0 0 0 else none) else
(bif Nat.beq pc 324 then en (.iload 5) 0 0 0 0 else none)))) else
(bif Nat.blt pc 329 then
(bif Nat.blt pc 327 then
(bif Nat.beq pc 326 then en (.iconst 2) 0 0 0 0 else none) else
(bif Nat.blt pc 328 then
(bif Nat.beq pc 327 then en (.iadd) 0 0 0 0 else none) else
(bif Nat.beq pc 328 then en (.iaload) 0 0 0 0 else none))) else
(bif Nat.blt pc 330 then
(bif Nat.beq pc 329 then en (.aload_n 3) 0 0 0 0 else none) else
(bif Nat.blt pc 333 then
(bif Nat.beq pc 330 then en (.invokestatic 154) 245 5 1041 0 else none) else
(bif Nat.beq pc 333 then en (.istore 6) 0 0 0 0 else none)))))))) else
(bif Nat.blt pc 398 then
(bif Nat.blt pc 369 then
(bif Nat.blt pc 347 then
(bif Nat.blt pc 341 then
(bif Nat.blt pc 337 then
(bif Nat.blt pc 336 then
(bif Nat.beq pc 335 then en (.aload_n 2) 0 0 0 0 else none) else
(bif Nat.beq pc 336 then en (.aload_n 0) 0 0 0 0 else none)) else
(bif Nat.blt pc 339 then
(bif Nat.beq pc 337 then en (.iload 5) 0 0 0 0 else none) else
(bif Nat.blt pc 340 then
(bif Nat.beq pc 339 then en (.iconst 1) 0 0 0 0 else none) else
(bif Nat.beq pc 340 then en (.iadd) 0 0 0 0 else none)))) else
(bif Nat.blt pc 343 then
(bif Nat.blt pc 342 then
(bif Nat.beq pc 341 then en (.iaload) 0 0 0 0 else none) else
(bif Nat.beq pc 342 then en (.aload_n 0) 0 0 0 0 else none)) else
(bif Nat.blt pc 345 then
(bif Nat.beq pc 343 then en (.iload 5) 0 0 0 0 else none) else
(bif Nat.blt pc 346 then
(bif Nat.beq pc 345 then en (.iconst 2) 0 0 0 0 else none) else
(bif Nat.beq pc 346 then en (.iadd) 0 0 0 0 else none))))) else
(bif Nat.blt pc 357 then
(bif Nat.blt pc 351 then
(bif Nat.blt pc 348 then
(bif Nat.beq pc 347 then en (.iaload) 0 0 0 0 else none) else
(bif Nat.beq pc 348 then en (.invokevirtual 156) 170 0 1592 159405 else none)) else
(bif Nat.blt pc 353 then
(bif Nat.beq pc 351 then en (.istore 7) 0 0 0 0 else none) else
(bif Nat.blt pc 354 then
(bif Nat.beq pc 353 then en (.aload_n 2) 0 0 0 0 else none) else
(bif Nat.beq pc 354 then en (.invokevirtual 151) 149 0 1563 156505 else none)))) else
(bif Nat.blt pc 363 then
(bif Nat.blt pc 359 then
(bif Nat.beq pc 357 then en (.iload 6) 0 0 0 0 else none) else
(bif Nat.blt pc 362 then
(bif Nat.beq pc 359 then en (.if_icmp .eq 5) 364 0 0 0 else none) else
(bif Nat.beq pc 362 then en (.iconst 0) 0 0 0 0 else none))) else
(bif Nat.blt pc 364 then
(bif Nat.beq pc 363 then en (.ireturn) 0 0 0 0 else none) else
(bif Nat.blt pc 366 then
(bif Nat.beq pc 364 then en (.iload 6) 0 0 0 0 else none) else
(bif Nat.beq pc 366 then en (.ifCond .ne 15) 381 0 0 0 else none)))))) else
(bif Nat.blt pc 385 then
(bif Nat.blt pc 375 then
(bif Nat.blt pc 371 then
(bif Nat.blt pc 370 then
(bif Nat.beq pc 369 then en (.aload_n 3) 0 0 0 0 else none) else
(bif Nat.beq pc 370 then en (.iconst 0) 0 0 0 0 else none)) else
(bif Nat.blt pc 372 then
(bif Nat.beq pc 371 then en (.laload) 0 0 0 0 else none) else
(bif Nat.blt pc 374 then
(bif Nat.beq pc 372 then en (.iload 7) 0 0 0 0 else none) else
(bif Nat.beq pc 374 then en (.i2l) 0 0 0 0 else none)))) else
(bif Nat.blt pc 380 then
(bif Nat.blt pc 376 then
(bif Nat.beq pc 375 then en (.lcmp) 0 0 0 0 else none) else
(bif Nat.blt pc 379 then
(bif Nat.beq pc 376 then en (.ifCond .eq 5) 381 0 0 0 else none) else
(bif Nat.beq pc 379 then en (.iconst 0) 0 0 0 0 else none))) else
(bif Nat.blt pc 381 then
(bif Nat.beq pc 380 then en (.ireturn) 0 0 0 0 else none) else
(bif Nat.blt pc 384 then
(bif Nat.beq pc 381 then en (.goto 2090) 2471 0 0 0 else none) else
(bif Nat.beq pc 384 then en (.aload_n 1) 0 0 0 0 else none))))) else
(bif Nat.blt pc 391 then
(bif Nat.blt pc 388 then
(bif Nat.blt pc 386 then
(bif Nat.beq pc 385 then en (.aload_n 0) 0 0 0 0 else none) else
(bif Nat.beq pc 386 then en (.iload 5) 0 0 0 0 else none)) else
(bif Nat.blt pc 389 then
(bif Nat.beq pc 388 then en (.iconst 1) 0 0 0 0 else none) else
(bif Nat.blt pc 390 then
(bif Nat.beq pc 389 then en (.iadd) 0 0 0 0 else none) else
(bif Nat.beq pc 390 then en (.iaload) 0 0 0 0 else none)))) else
(bif Nat.blt pc 395 then
(bif Nat.blt pc 392 then
(bif Nat.beq pc 391 then en (.aload_n 0) 0 0 0 0 else none) else
(bif Nat.blt pc 394 then
(bif Nat.beq pc 392 then en (.iload 5) 0 0 0 0 else none) else
(bif Nat.beq pc 394 then en (.iconst 2) 0 0 0 0 else none))) else
(bif Nat.blt pc 396 then
(bif Nat.beq pc 395 then en (.iadd) 0 0 0 0 else none) else
(bif Nat.blt pc 397 then
(bif Nat.beq pc 396 then en (.iaload) 0 0 0 0 else none) else
(bif Nat.beq pc 397 then en (.aload_n 0) 0 0 0 0 else none))))))) else
(bif Nat.blt pc 427 then
(bif Nat.blt pc 414 then
(bif Nat.blt pc 404 then
(bif Nat.blt pc 401 then
(bif Nat.blt pc 400 then
(bif Nat.beq pc 398 then en (.iload 5) 0 0 0 0 else none) else
(bif Nat.beq pc 400 then en (.iconst 3) 0 0 0 0 else none)) else
(bif Nat.blt pc 402 then
(bif Nat.beq pc 401 then en (.iadd) 0 0 0 0 else none) else
(bif Nat.blt pc 403 then
(bif Nat.beq pc 402 then en (.iaload) 0 0 0 0 else none) else
(bif Nat.beq pc 403 then en (.aload_n 3) 0 0 0 0 else none)))) else
(bif Nat.blt pc 410 then
(bif Nat.blt pc 407 then
(bif Nat.beq pc 404 then en (.invokestatic 157) 246 5 1053 0 else none) else
(bif Nat.blt pc 409 then
(bif Nat.beq pc 407 then en (.istore 6) 0 0 0 0 else none) else
(bif Nat.beq pc 409 then en (.aload_n 2) 0 0 0 0 else none))) else
(bif Nat.blt pc 411 then
(bif Nat.beq pc 410 then en (.aload_n 0) 0 0 0 0 else none) else
(bif Nat.blt pc 413 then
(bif Nat.beq pc 411 then en (.iload 5) 0 0 0 0 else none) else
(bif Nat.beq pc 413 then en (.iconst 1) 0 0 0 0 else none))))) else
(bif Nat.blt pc 420 then
(bif Nat.blt pc 416 then
(bif Nat.blt pc 415 then
(bif Nat.beq pc 414 then en (.iadd) 0 0 0 0 else none) else
(bif Nat.beq pc 415 then en (.iaload) 0 0 0 0 else none)) else
(bif Nat.blt pc 417 then
(bif Nat.beq pc 416 then en (.aload_n 0) 0 0 0 0 else none) else
(bif Nat.blt pc 419 then
(bif Nat.beq pc 417 then en (.iload 5) 0 0 0 0 else none) else
(bif Nat.beq pc 419 then en (.iconst 2) 0 0 0 0 else none)))) else
(bif Nat.blt pc 423 then
(bif Nat.blt pc 421 then
(bif Nat.beq pc 420 then en (.iadd) 0 0 0 0 else none) else
(bif Nat.blt pc 422 then
(bif Nat.beq pc 421 then en (.iaload) 0 0 0 0 else none) else
(bif Nat.beq pc 422 then en (.aload_n 0) 0 0 0 0 else none))) else
(bif Nat.blt pc 425 then
(bif Nat.beq pc 423 then en (.iload 5) 0 0 0 0 else none) else
(bif Nat.blt pc 426 then
(bif Nat.beq pc 425 then en (.iconst 3) 0 0 0 0 else none) else
(bif Nat.beq pc 426 then en (.iadd) 0 0 0 0 else none)))))) else
(bif Nat.blt pc 449 then
(bif Nat.blt pc 437 then
(bif Nat.blt pc 431 then
(bif Nat.blt pc 428 then
(bif Nat.beq pc 427 then en (.iaload) 0 0 0 0 else none) else
(bif Nat.beq pc 428 then en (.invokevirtual 160) 172 0 1623 162505 else none)) else
(bif Nat.blt pc 433 then
(bif Nat.beq pc 431 then en (.istore 7) 0 0 0 0 else none) else
(bif Nat.blt pc 434 then
(bif Nat.beq pc 433 then en (.aload_n 2) 0 0 0 0 else none) else
(bif Nat.beq pc 434 then en (.invokevirtual 151) 149 0 1563 156505 else none)))) else
(bif Nat.blt pc 443 then
(bif Nat.blt pc 439 then
(bif Nat.beq pc 437 then en (.iload 6) 0 0 0 0 else none) else
(bif Nat.blt pc 442 then
(bif Nat.beq pc 439 then en (.if_icmp .eq 5) 444 0 0 0 else none) else
(bif Nat.beq pc 442 then en (.iconst 0) 0 0 0 0 else none))) else
(bif Nat.blt pc 444 then
(bif Nat.beq pc 443 then en (.ireturn) 0 0 0 0 else none) else
(bif Nat.blt pc 446 then
(bif Nat.beq pc 444 then en (.iload 6) 0 0 0 0 else none) else
(bif Nat.beq pc 446 then en (.ifCond .ne 15) 461 0 0 0 else none))))) else
(bif Nat.blt pc 455 then
(bif Nat.blt pc 451 then
(bif Nat.blt pc 450 then
(bif Nat.beq pc 449 then en (.aload_n 3) 0 0 0 0 else none) else
(bif Nat.beq pc 450 then en (.iconst 0) 0 0 0 0 else none)) else
(bif Nat.blt pc 452 then
(bif Nat.beq pc 451 then en (.laload) 0 0 0 0 else none) else
(bif Nat.blt pc 454 then
(bif Nat.beq pc 452 then en (.iload 7) 0 0 0 0 else none) else
(bif Nat.beq pc 454 then en (.i2l) 0 0 0 0 else none)))) else
(bif Nat.blt pc 460 then
(bif Nat.blt pc 456 then
(bif Nat.beq pc 455 then en (.lcmp) 0 0 0 0 else none) else
(bif Nat.blt pc 459 then
(bif Nat.beq pc 456 then en (.ifCond .eq 5) 461 0 0 0 else none) else
(bif Nat.beq pc 459 then en (.iconst 0) 0 0 0 0 else none))) else
(bif Nat.blt pc 461 then
(bif Nat.beq pc 460 then en (.ireturn) 0 0 0 0 else none) else
(bif Nat.blt pc 464 then
(bif Nat.beq pc 461 then en (.goto 2010) 2471 0 0 0 else none) else
(bif Nat.beq pc 464 then en (.aload_n 1) 0 0 0 0 else none))))))))) else
(bif Nat.blt pc 602 then
(bif Nat.blt pc 533 then
(bif Nat.blt pc 499 then
(bif Nat.blt pc 479 then
(bif Nat.blt pc 471 then
(bif Nat.blt pc 468 then
(bif Nat.blt pc 466 then
(bif Nat.beq pc 465 then en (.aload_n 0) 0 0 0 0 else none) else
(bif Nat.beq pc 466 then en (.iload 5) 0 0 0 0 else none)) else
(bif Nat.blt pc 469 then
(bif Nat.beq pc 468 then en (.iconst 1) 0 0 0 0 else none) else
(bif Nat.blt pc 470 then
(bif Nat.beq pc 469 then en (.iadd) 0 0 0 0 else none) else
(bif Nat.beq pc 470 then en (.iaload) 0 0 0 0 else none)))) else
(bif Nat.blt pc 475 then
(bif Nat.blt pc 472 then
(bif Nat.beq pc 471 then en (.aload_n 3) 0 0 0 0 else none) else
(bif Nat.beq pc 472 then en (.invokestatic 161) 247 5 1062 0 else none)) else
(bif Nat.blt pc 477 then
(bif Nat.beq pc 475 then en (.istore 6) 0 0 0 0 else none) else
(bif Nat.blt pc 478 then
(bif Nat.beq pc 477 then en (.aload_n 2) 0 0 0 0 else none) else
(bif Nat.beq pc 478 then en (.aload_n 0) 0 0 0 0 else none))))) else
(bif Nat.blt pc 487 then
(bif Nat.blt pc 482 then
(bif Nat.blt pc 481 then
(bif Nat.beq pc 479 then en (.iload 5) 0 0 0 0 else none) else
(bif Nat.beq pc 481 then en (.iconst 1) 0 0 0 0 else none)) else
(bif Nat.blt pc 483 then
(bif Nat.beq pc 482 then en (.iadd) 0 0 0 0 else none) else
(bif Nat.blt pc 484 then
(bif Nat.beq pc 483 then en (.iaload) 0 0 0 0 else none) else
(bif Nat.beq pc 484 then en (.invokevirtual 164) 175 0 1632 163405 else none)))) else
(bif Nat.blt pc 493 then
(bif Nat.blt pc 489 then
(bif Nat.beq pc 487 then en (.istore 7) 0 0 0 0 else none) else
(bif Nat.blt pc 490 then
(bif Nat.beq pc 489 then en (.aload_n 2) 0 0 0 0 else none) else
(bif Nat.beq pc 490 then en (.invokevirtual 151) 149 0 1563 156505 else none))) else
(bif Nat.blt pc 495 then
(bif Nat.beq pc 493 then en (.iload 6) 0 0 0 0 else none) else
(bif Nat.blt pc 498 then
(bif Nat.beq pc 495 then en (.if_icmp .eq 5) 500 0 0 0 else none) else
(bif Nat.beq pc 498 then en (.iconst 0) 0 0 0 0 else none)))))) else
(bif Nat.blt pc 516 then
(bif Nat.blt pc 507 then
(bif Nat.blt pc 502 then
(bif Nat.blt pc 500 then
(bif Nat.beq pc 499 then en (.ireturn) 0 0 0 0 else none) else
(bif Nat.beq pc 500 then en (.iload 6) 0 0 0 0 else none)) else
(bif Nat.blt pc 505 then
(bif Nat.beq pc 502 then en (.ifCond .ne 15) 517 0 0 0 else none) else
(bif Nat.blt pc 506 then
(bif Nat.beq pc 505 then en (.aload_n 3) 0 0 0 0 else none) else
(bif Nat.beq pc 506 then en (.iconst 0) 0 0 0 0 else none)))) else
(bif Nat.blt pc 511 then
(bif Nat.blt pc 508 then
(bif Nat.beq pc 507 then en (.laload) 0 0 0 0 else none) else
(bif Nat.blt pc 510 then
(bif Nat.beq pc 508 then en (.iload 7) 0 0 0 0 else none) else
(bif Nat.beq pc 510 then en (.i2l) 0 0 0 0 else none))) else
(bif Nat.blt pc 512 then
(bif Nat.beq pc 511 then en (.lcmp) 0 0 0 0 else none) else
(bif Nat.blt pc 515 then
(bif Nat.beq pc 512 then en (.ifCond .eq 5) 517 0 0 0 else none) else
(bif Nat.beq pc 515 then en (.iconst 0) 0 0 0 0 else none))))) else
(bif Nat.blt pc 524 then
(bif Nat.blt pc 520 then
(bif Nat.blt pc 517 then
(bif Nat.beq pc 516 then en (.ireturn) 0 0 0 0 else none) else
(bif Nat.beq pc 517 then en (.goto 1954) 2471 0 0 0 else none)) else
(bif Nat.blt pc 521 then
(bif Nat.beq pc 520 then en (.aload_n 1) 0 0 0 0 else none) else
(bif Nat.blt pc 522 then
(bif Nat.beq pc 521 then en (.aload_n 0) 0 0 0 0 else none) else
(bif Nat.beq pc 522 then en (.iload 5) 0 0 0 0 else none)))) else
(bif Nat.blt pc 527 then
(bif Nat.blt pc 525 then
(bif Nat.beq pc 524 then en (.iconst 1) 0 0 0 0 else none) else
(bif Nat.blt pc 526 then
(bif Nat.beq pc 525 then en (.iadd) 0 0 0 0 else none) else
(bif Nat.beq pc 526 then en (.iaload) 0 0 0 0 else none))) else
(bif Nat.blt pc 528 then
(bif Nat.beq pc 527 then en (.aload_n 3) 0 0 0 0 else none) else
(bif Nat.blt pc 531 then
(bif Nat.beq pc 528 then en (.invokestatic 165) 248 5 1072 0 else none) else
(bif Nat.beq pc 531 then en (.istore 6) 0 0 0 0 else none))))))) else
(bif Nat.blt pc 568 then
(bif Nat.blt pc 551 then
(bif Nat.blt pc 539 then
(bif Nat.blt pc 535 then
(bif Nat.blt pc 534 then
(bif Nat.beq pc 533 then en (.aload_n 2) 0 0 0 0 else none) else
(bif Nat.beq pc 534 then en (.aload_n 0) 0 0 0 0 else none)) else
(bif Nat.blt pc 537 then
(bif Nat.beq pc 535 then en (.iload 5) 0 0 0 0 else none) else
(bif Nat.blt pc 538 then
(bif Nat.beq pc 537 then en (.iconst 1) 0 0 0 0 else none) else
(bif Nat.beq pc 538 then en (.iadd) 0 0 0 0 else none)))) else
(bif Nat.blt pc 545 then
(bif Nat.blt pc 540 then
(bif Nat.beq pc 539 then en (.iaload) 0 0 0 0 else none) else
(bif Nat.blt pc 543 then
(bif Nat.beq pc 540 then en (.invokevirtual 167) 176 0 1648 165005 else none) else
(bif Nat.beq pc 543 then en (.istore 7) 0 0 0 0 else none))) else
(bif Nat.blt pc 546 then
(bif Nat.beq pc 545 then en (.aload_n 2) 0 0 0 0 else none) else
(bif Nat.blt pc 549 then
(bif Nat.beq pc 546 then en (.invokevirtual 151) 149 0 1563 156505 else none) else
(bif Nat.beq pc 549 then en (.iload 6) 0 0 0 0 else none))))) else
(bif Nat.blt pc 561 then
(bif Nat.blt pc 555 then
(bif Nat.blt pc 554 then
(bif Nat.beq pc 551 then en (.if_icmp .eq 5) 556 0 0 0 else none) else
(bif Nat.beq pc 554 then en (.iconst 0) 0 0 0 0 else none)) else
(bif Nat.blt pc 556 then
(bif Nat.beq pc 555 then en (.ireturn) 0 0 0 0 else none) else
(bif Nat.blt pc 558 then
(bif Nat.beq pc 556 then en (.iload 6) 0 0 0 0 else none) else
(bif Nat.beq pc 558 then en (.ifCond .ne 15) 573 0 0 0 else none)))) else
(bif Nat.blt pc 564 then
(bif Nat.blt pc 562 then
(bif Nat.beq pc 561 then en (.aload_n 3) 0 0 0 0 else none) else
(bif Nat.blt pc 563 then
(bif Nat.beq pc 562 then en (.iconst 0) 0 0 0 0 else none) else
(bif Nat.beq pc 563 then en (.laload) 0 0 0 0 else none))) else
(bif Nat.blt pc 566 then
(bif Nat.beq pc 564 then en (.iload 7) 0 0 0 0 else none) else
(bif Nat.blt pc 567 then
(bif Nat.beq pc 566 then en (.i2l) 0 0 0 0 else none) else
(bif Nat.beq pc 567 then en (.lcmp) 0 0 0 0 else none)))))) else
(bif Nat.blt pc 584 then
(bif Nat.blt pc 577 then
(bif Nat.blt pc 572 then
(bif Nat.blt pc 571 then
(bif Nat.beq pc 568 then en (.ifCond .eq 5) 573 0 0 0 else none) else
(bif Nat.beq pc 571 then en (.iconst 0) 0 0 0 0 else none)) else
(bif Nat.blt pc 573 then
(bif Nat.beq pc 572 then en (.ireturn) 0 0 0 0 else none) else
(bif Nat.blt pc 576 then
(bif Nat.beq pc 573 then en (.goto 1898) 2471 0 0 0 else none) else
(bif Nat.beq pc 576 then en (.aload_n 1) 0 0 0 0 else none)))) else
(bif Nat.blt pc 581 then
(bif Nat.blt pc 578 then
(bif Nat.beq pc 577 then en (.aload_n 0) 0 0 0 0 else none) else
(bif Nat.blt pc 580 then
(bif Nat.beq pc 578 then en (.iload 5) 0 0 0 0 else none) else
(bif Nat.beq pc 580 then en (.iconst 1) 0 0 0 0 else none))) else
(bif Nat.blt pc 582 then
(bif Nat.beq pc 581 then en (.iadd) 0 0 0 0 else none) else
(bif Nat.blt pc 583 then
(bif Nat.beq pc 582 then en (.iaload) 0 0 0 0 else none) else
(bif Nat.beq pc 583 then en (.aload_n 3) 0 0 0 0 else none))))) else
(bif Nat.blt pc 593 then
(bif Nat.blt pc 589 then
(bif Nat.blt pc 587 then
(bif Nat.beq pc 584 then en (.invokestatic 168) 249 5 1081 0 else none) else
(bif Nat.beq pc 587 then en (.istore 6) 0 0 0 0 else none)) else
(bif Nat.blt pc 590 then
(bif Nat.beq pc 589 then en (.aload_n 2) 0 0 0 0 else none) else
(bif Nat.blt pc 591 then
(bif Nat.beq pc 590 then en (.aload_n 0) 0 0 0 0 else none) else
(bif Nat.beq pc 591 then en (.iload 5) 0 0 0 0 else none)))) else
(bif Nat.blt pc 596 then
(bif Nat.blt pc 594 then
(bif Nat.beq pc 593 then en (.iconst 1) 0 0 0 0 else none) else
(bif Nat.blt pc 595 then
(bif Nat.beq pc 594 then en (.iadd) 0 0 0 0 else none) else
(bif Nat.beq pc 595 then en (.iaload) 0 0 0 0 else none))) else
(bif Nat.blt pc 599 then
(bif Nat.beq pc 596 then en (.invokevirtual 170) 178 0 1652 165405 else none) else
(bif Nat.blt pc 601 then
(bif Nat.beq pc 599 then en (.istore 7) 0 0 0 0 else none) else
(bif Nat.beq pc 601 then en (.aload_n 2) 0 0 0 0 else none)))))))) else
(bif Nat.blt pc 675 then
(bif Nat.blt pc 638 then
(bif Nat.blt pc 622 then
(bif Nat.blt pc 612 then
(bif Nat.blt pc 607 then
(bif Nat.blt pc 605 then
(bif Nat.beq pc 602 then en (.invokevirtual 151) 149 0 1563 156505 else none) else
(bif Nat.beq pc 605 then en (.iload 6) 0 0 0 0 else none)) else
(bif Nat.blt pc 610 then
(bif Nat.beq pc 607 then en (.if_icmp .eq 5) 612 0 0 0 else none) else
(bif Nat.blt pc 611 then
(bif Nat.beq pc 610 then en (.iconst 0) 0 0 0 0 else none) else
(bif Nat.beq pc 611 then en (.ireturn) 0 0 0 0 else none)))) else
(bif Nat.blt pc 618 then
(bif Nat.blt pc 614 then
(bif Nat.beq pc 612 then en (.iload 6) 0 0 0 0 else none) else
(bif Nat.blt pc 617 then
(bif Nat.beq pc 614 then en (.ifCond .ne 15) 629 0 0 0 else none) else
(bif Nat.beq pc 617 then en (.aload_n 3) 0 0 0 0 else none))) else
(bif Nat.blt pc 619 then
(bif Nat.beq pc 618 then en (.iconst 0) 0 0 0 0 else none) else
(bif Nat.blt pc 620 then
(bif Nat.beq pc 619 then en (.laload) 0 0 0 0 else none) else
(bif Nat.beq pc 620 then en (.iload 7) 0 0 0 0 else none))))) else
(bif Nat.blt pc 629 then
(bif Nat.blt pc 624 then
(bif Nat.blt pc 623 then
(bif Nat.beq pc 622 then en (.i2l) 0 0 0 0 else none) else
(bif Nat.beq pc 623 then en (.lcmp) 0 0 0 0 else none)) else
(bif Nat.blt pc 627 then
(bif Nat.beq pc 624 then en (.ifCond .eq 5) 629 0 0 0 else none) else
(bif Nat.blt pc 628 then
(bif Nat.beq pc 627 then en (.iconst 0) 0 0 0 0 else none) else
(bif Nat.beq pc 628 then en (.ireturn) 0 0 0 0 else none)))) else
(bif Nat.blt pc 634 then
(bif Nat.blt pc 632 then
(bif Nat.beq pc 629 then en (.goto 1842) 2471 0 0 0 else none) else
(bif Nat.blt pc 633 then
(bif Nat.beq pc 632 then en (.aload_n 1) 0 0 0 0 else none) else
(bif Nat.beq pc 633 then en (.aload_n 0) 0 0 0 0 else none))) else
(bif Nat.blt pc 636 then
(bif Nat.beq pc 634 then en (.iload 5) 0 0 0 0 else none) else
(bif Nat.blt pc 637 then
(bif Nat.beq pc 636 then en (.iconst 1) 0 0 0 0 else none) else
(bif Nat.beq pc 637 then en (.iadd) 0 0 0 0 else none)))))) else
(bif Nat.blt pc 655 then
(bif Nat.blt pc 646 then
(bif Nat.blt pc 640 then
(bif Nat.blt pc 639 then
(bif Nat.beq pc 638 then en (.iaload) 0 0 0 0 else none) else
(bif Nat.beq pc 639 then en (.aload_n 3) 0 0 0 0 else none)) else
(bif Nat.blt pc 643 then
(bif Nat.beq pc 640 then en (.invokestatic 171) 250 5 1090 0 else none) else
(bif Nat.blt pc 645 then
(bif Nat.beq pc 643 then en (.istore 6) 0 0 0 0 else none) else
(bif Nat.beq pc 645 then en (.aload_n 2) 0 0 0 0 else none)))) else
(bif Nat.blt pc 650 then
(bif Nat.blt pc 647 then
(bif Nat.beq pc 646 then en (.aload_n 0) 0 0 0 0 else none) else
(bif Nat.blt pc 649 then
(bif Nat.beq pc 647 then en (.iload 5) 0 0 0 0 else none) else
(bif Nat.beq pc 649 then en (.iconst 1) 0 0 0 0 else none))) else
(bif Nat.blt pc 651 then
(bif Nat.beq pc 650 then en (.iadd) 0 0 0 0 else none) else
(bif Nat.blt pc 652 then
(bif Nat.beq pc 651 then en (.iaload) 0 0 0 0 else none) else
(bif Nat.beq pc 652 then en (.invokevirtual 173) 188 0 1664 166605 else none))))) else
(bif Nat.blt pc 666 then
(bif Nat.blt pc 658 then
(bif Nat.blt pc 657 then
(bif Nat.beq pc 655 then en (.istore 7) 0 0 0 0 else none) else
(bif Nat.beq pc 657 then en (.aload_n 2) 0 0 0 0 else none)) else
(bif Nat.blt pc 661 then
(bif Nat.beq pc 658 then en (.invokevirtual 151) 149 0 1563 156505 else none) else
(bif Nat.blt pc 663 then
(bif Nat.beq pc 661 then en (.iload 6) 0 0 0 0 else none) else
(bif Nat.beq pc 663 then en (.if_icmp .eq 5) 668 0 0 0 else none)))) else
(bif Nat.blt pc 670 then
(bif Nat.blt pc 667 then
(bif Nat.beq pc 666 then en (.iconst 0) 0 0 0 0 else none) else
(bif Nat.blt pc 668 then
(bif Nat.beq pc 667 then en (.ireturn) 0 0 0 0 else none) else
(bif Nat.beq pc 668 then en (.iload 6) 0 0 0 0 else none))) else
(bif Nat.blt pc 673 then
(bif Nat.beq pc 670 then en (.ifCond .ne 15) 685 0 0 0 else none) else
(bif Nat.blt pc 674 then
(bif Nat.beq pc 673 then en (.aload_n 3) 0 0 0 0 else none) else
(bif Nat.beq pc 674 then en (.iconst 0) 0 0 0 0 else none))))))) else
(bif Nat.blt pc 709 then
(bif Nat.blt pc 693 then
(bif Nat.blt pc 683 then
(bif Nat.blt pc 678 then
(bif Nat.blt pc 676 then
(bif Nat.beq pc 675 then en (.laload) 0 0 0 0 else none) else
(bif Nat.beq pc 676 then en (.iload 7) 0 0 0 0 else none)) else
(bif Nat.blt pc 679 then
(bif Nat.beq pc 678 then en (.i2l) 0 0 0 0 else none) else
(bif Nat.blt pc 680 then
(bif Nat.beq pc 679 then en (.lcmp) 0 0 0 0 else none) else
(bif Nat.beq pc 680 then en (.ifCond .eq 5) 685 0 0 0 else none)))) else
(bif Nat.blt pc 688 then
(bif Nat.blt pc 684 then
(bif Nat.beq pc 683 then en (.iconst 0) 0 0 0 0 else none) else
(bif Nat.blt pc 685 then
(bif Nat.beq pc 684 then en (.ireturn) 0 0 0 0 else none) else
(bif Nat.beq pc 685 then en (.goto 1786) 2471 0 0 0 else none))) else
(bif Nat.blt pc 689 then
(bif Nat.beq pc 688 then en (.aload_n 1) 0 0 0 0 else none) else
(bif Nat.blt pc 692 then
(bif Nat.beq pc 689 then en (.invokevirtual 174) 100 0 361 36300 else none) else
(bif Nat.beq pc 692 then en (.aload_n 2) 0 0 0 0 else none))))) else
(bif Nat.blt pc 702 then
(bif Nat.blt pc 699 then
(bif Nat.blt pc 696 then
(bif Nat.beq pc 693 then en (.invokevirtual 177) 190 0 1724 172605 else none) else
(bif Nat.beq pc 696 then en (.if_icmp .eq 1775) 2471 0 0 0 else none)) else
(bif Nat.blt pc 700 then
(bif Nat.beq pc 699 then en (.iconst 0) 0 0 0 0 else none) else
(bif Nat.blt pc 701 then
(bif Nat.beq pc 700 then en (.ireturn) 0 0 0 0 else none) else
(bif Nat.beq pc 701 then en (.aload_n 1) 0 0 0 0 else none)))) else
(bif Nat.blt pc 706 then
(bif Nat.blt pc 703 then
(bif Nat.beq pc 702 then en (.aload_n 0) 0 0 0 0 else none) else
(bif Nat.blt pc 705 then
(bif Nat.beq pc 703 then en (.iload 5) 0 0 0 0 else none) else
(bif Nat.beq pc 705 then en (.iconst 1) 0 0 0 0 else none))) else
(bif Nat.blt pc 707 then
(bif Nat.beq pc 706 then en (.iadd) 0 0 0 0 else none) else
(bif Nat.blt pc 708 then
(bif Nat.beq pc 707 then en (.iaload) 0 0 0 0 else none) else
(bif Nat.beq pc 708 then en (.aload_n 3) 0 0 0 0 else none)))))) else
(bif Nat.blt pc 727 then
(bif Nat.blt pc 718 then
(bif Nat.blt pc 714 then
(bif Nat.blt pc 712 then
(bif Nat.beq pc 709 then en (.invokestatic 178) 251 5 1098 0 else none) else
(bif Nat.beq pc 712 then en (.istore 6) 0 0 0 0 else none)) else
(bif Nat.blt pc 715 then
(bif Nat.beq pc 714 then en (.aload_n 2) 0 0 0 0 else none) else
(bif Nat.blt pc 716 then
(bif Nat.beq pc 715 then en (.aload_n 0) 0 0 0 0 else none) else
(bif Nat.beq pc 716 then en (.iload 5) 0 0 0 0 else none)))) else
(bif Nat.blt pc 721 then
(bif Nat.blt pc 719 then
(bif Nat.beq pc 718 then en (.iconst 1) 0 0 0 0 else none) else
(bif Nat.blt pc 720 then
(bif Nat.beq pc 719 then en (.iadd) 0 0 0 0 else none) else
(bif Nat.beq pc 720 then en (.iaload) 0 0 0 0 else none))) else
(bif Nat.blt pc 724 then
(bif Nat.beq pc 721 then en (.invokevirtual 180) 191 0 1732 173405 else none) else
(bif Nat.blt pc 726 then
(bif Nat.beq pc 724 then en (.istore 7) 0 0 0 0 else none) else
(bif Nat.beq pc 726 then en (.aload_n 2) 0 0 0 0 else none))))) else
(bif Nat.blt pc 737 then
(bif Nat.blt pc 732 then
(bif Nat.blt pc 730 then
(bif Nat.beq pc 727 then en (.invokevirtual 151) 149 0 1563 156505 else none) else
(bif Nat.beq pc 730 then en (.iload 6) 0 0 0 0 else none)) else
(bif Nat.blt pc 735 then
(bif Nat.beq pc 732 then en (.if_icmp .eq 5) 737 0 0 0 else none) else
(bif Nat.blt pc 736 then
(bif Nat.beq pc 735 then en (.iconst 0) 0 0 0 0 else none) else
(bif Nat.beq pc 736 then en (.ireturn) 0 0 0 0 else none)))) else
(bif Nat.blt pc 743 then
(bif Nat.blt pc 739 then
(bif Nat.beq pc 737 then en (.iload 6) 0 0 0 0 else none) else
(bif Nat.blt pc 742 then
(bif Nat.beq pc 739 then en (.ifCond .ne 15) 754 0 0 0 else none) else
(bif Nat.beq pc 742 then en (.aload_n 3) 0 0 0 0 else none))) else
(bif Nat.blt pc 744 then
(bif Nat.beq pc 743 then en (.iconst 0) 0 0 0 0 else none) else
(bif Nat.blt pc 745 then
(bif Nat.beq pc 744 then en (.laload) 0 0 0 0 else none) else
(bif Nat.beq pc 745 then en (.iload 7) 0 0 0 0 else none)))))))))) else
(bif Nat.blt pc 1029 then
(bif Nat.blt pc 884 then
(bif Nat.blt pc 815 then
(bif Nat.blt pc 777 then
(bif Nat.blt pc 762 then
(bif Nat.blt pc 754 then
(bif Nat.blt pc 749 then
(bif Nat.blt pc 748 then
(bif Nat.beq pc 747 then en (.i2l) 0 0 0 0 else none) else
(bif Nat.beq pc 748 then en (.lcmp) 0 0 0 0 else none)) else
(bif Nat.blt pc 752 then
(bif Nat.beq pc 749 then en (.ifCond .eq 5) 754 0 0 0 else none) else
(bif Nat.blt pc 753 then
(bif Nat.beq pc 752 then en (.iconst 0) 0 0 0 0 else none) else
(bif Nat.beq pc 753 then en (.ireturn) 0 0 0 0 else none)))) else
(bif Nat.blt pc 758 then
(bif Nat.blt pc 757 then
(bif Nat.beq pc 754 then en (.goto 1717) 2471 0 0 0 else none) else
(bif Nat.beq pc 757 then en (.aload_n 1) 0 0 0 0 else none)) else
(bif Nat.blt pc 759 then
(bif Nat.beq pc 758 then en (.aload_n 0) 0 0 0 0 else none) else
(bif Nat.blt pc 761 then
(bif Nat.beq pc 759 then en (.iload 5) 0 0 0 0 else none) else
(bif Nat.beq pc 761 then en (.iconst 1) 0 0 0 0 else none))))) else
(bif Nat.blt pc 770 then
(bif Nat.blt pc 764 then
(bif Nat.blt pc 763 then
(bif Nat.beq pc 762 then en (.iadd) 0 0 0 0 else none) else
(bif Nat.beq pc 763 then en (.iaload) 0 0 0 0 else none)) else
(bif Nat.blt pc 765 then
(bif Nat.beq pc 764 then en (.aload_n 3) 0 0 0 0 else none) else
(bif Nat.blt pc 768 then
(bif Nat.beq pc 765 then en (.invokestatic 181) 252 5 1110 0 else none) else
(bif Nat.beq pc 768 then en (.istore 6) 0 0 0 0 else none)))) else
(bif Nat.blt pc 774 then
(bif Nat.blt pc 771 then
(bif Nat.beq pc 770 then en (.aload_n 2) 0 0 0 0 else none) else
(bif Nat.blt pc 772 then
(bif Nat.beq pc 771 then en (.aload_n 0) 0 0 0 0 else none) else
(bif Nat.beq pc 772 then en (.iload 5) 0 0 0 0 else none))) else
(bif Nat.blt pc 775 then
(bif Nat.beq pc 774 then en (.iconst 1) 0 0 0 0 else none) else
(bif Nat.blt pc 776 then
(bif Nat.beq pc 775 then en (.iadd) 0 0 0 0 else none) else
(bif Nat.beq pc 776 then en (.iaload) 0 0 0 0 else none)))))) else
(bif Nat.blt pc 799 then
(bif Nat.blt pc 788 then
(bif Nat.blt pc 782 then
(bif Nat.blt pc 780 then
(bif Nat.beq pc 777 then en (.invokevirtual 183) 192 0 1736 173805 else none) else
(bif Nat.beq pc 780 then en (.istore 7) 0 0 0 0 else none)) else
(bif Nat.blt pc 783 then
(bif Nat.beq pc 782 then en (.aload_n 2) 0 0 0 0 else none) else
(bif Nat.blt pc 786 then
(bif Nat.beq pc 783 then en (.invokevirtual 151) 149 0 1563 156505 else none) else
(bif Nat.beq pc 786 then en (.iload 6) 0 0 0 0 else none)))) else
(bif Nat.blt pc 793 then
(bif Nat.blt pc 791 then
(bif Nat.beq pc 788 then en (.if_icmp .eq 5) 793 0 0 0 else none) else
(bif Nat.blt pc 792 then
(bif Nat.beq pc 791 then en (.iconst 0) 0 0 0 0 else none) else
(bif Nat.beq pc 792 then en (.ireturn) 0 0 0 0 else none))) else
(bif Nat.blt pc 795 then
(bif Nat.beq pc 793 then en (.iload 6) 0 0 0 0 else none) else
(bif Nat.blt pc 798 then
(bif Nat.beq pc 795 then en (.ifCond .ne 15) 810 0 0 0 else none) else
(bif Nat.beq pc 798 then en (.aload_n 3) 0 0 0 0 else none))))) else
(bif Nat.blt pc 805 then
(bif Nat.blt pc 801 then
(bif Nat.blt pc 800 then
(bif Nat.beq pc 799 then en (.iconst 0) 0 0 0 0 else none) else
(bif Nat.beq pc 800 then en (.laload) 0 0 0 0 else none)) else
(bif Nat.blt pc 803 then
(bif Nat.beq pc 801 then en (.iload 7) 0 0 0 0 else none) else
(bif Nat.blt pc 804 then
(bif Nat.beq pc 803 then en (.i2l) 0 0 0 0 else none) else
(bif Nat.beq pc 804 then en (.lcmp) 0 0 0 0 else none)))) else
(bif Nat.blt pc 810 then
(bif Nat.blt pc 808 then
(bif Nat.beq pc 805 then en (.ifCond .eq 5) 810 0 0 0 else none) else
(bif Nat.blt pc 809 then
(bif Nat.beq pc 808 then en (.iconst 0) 0 0 0 0 else none) else
(bif Nat.beq pc 809 then en (.ireturn) 0 0 0 0 else none))) else
(bif Nat.blt pc 813 then
(bif Nat.beq pc 810 then en (.goto 1661) 2471 0 0 0 else none) else
(bif Nat.blt pc 814 then
(bif Nat.beq pc 813 then en (.aload_n 1) 0 0 0 0 else none) else
(bif Nat.beq pc 814 then en (.aload_n 0) 0 0 0 0 else none))))))) else
(bif Nat.blt pc 851 then
(bif Nat.blt pc 831 then
(bif Nat.blt pc 821 then
(bif Nat.blt pc 818 then
(bif Nat.blt pc 817 then
(bif Nat.beq pc 815 then en (.iload 5) 0 0 0 0 else none) else
(bif Nat.beq pc 817 then en (.iconst 1) 0 0 0 0 else none)) else
(bif Nat.blt pc 819 then
(bif Nat.beq pc 818 then en (.iadd) 0 0 0 0 else none) else
(bif Nat.blt pc 820 then
(bif Nat.beq pc 819 then en (.iaload) 0 0 0 0 else none) else
(bif Nat.beq pc 820 then en (.aload_n 3) 0 0 0 0 else none)))) else
(bif Nat.blt pc 827 then
(bif Nat.blt pc 824 then
(bif Nat.beq pc 821 then en (.invokestatic 184) 253 5 1118 0 else none) else
(bif Nat.blt pc 826 then
(bif Nat.beq pc 824 then en (.istore 6) 0 0 0 0 else none) else
(bif Nat.beq pc 826 then en (.aload_n 2) 0 0 0 0 else none))) else
(bif Nat.blt pc 828 then
(bif Nat.beq pc 827 then en (.aload_n 0) 0 0 0 0 else none) else
(bif Nat.blt pc 830 then
(bif Nat.beq pc 828 then en (.iload 5) 0 0 0 0 else none) else
(bif Nat.beq pc 830 then en (.iconst 1) 0 0 0 0 else none))))) else
(bif Nat.blt pc 839 then
(bif Nat.blt pc 833 then
(bif Nat.blt pc 832 then
(bif Nat.beq pc 831 then en (.iadd) 0 0 0 0 else none) else
(bif Nat.beq pc 832 then en (.iaload) 0 0 0 0 else none)) else
(bif Nat.blt pc 836 then
(bif Nat.beq pc 833 then en (.invokevirtual 186) 193 0 1740 174205 else none) else
(bif Nat.blt pc 838 then
(bif Nat.beq pc 836 then en (.istore 7) 0 0 0 0 else none) else
(bif Nat.beq pc 838 then en (.aload_n 2) 0 0 0 0 else none)))) else
(bif Nat.blt pc 847 then
(bif Nat.blt pc 842 then
(bif Nat.beq pc 839 then en (.invokevirtual 151) 149 0 1563 156505 else none) else
(bif Nat.blt pc 844 then
(bif Nat.beq pc 842 then en (.iload 6) 0 0 0 0 else none) else
(bif Nat.beq pc 844 then en (.if_icmp .eq 5) 849 0 0 0 else none))) else
(bif Nat.blt pc 848 then
(bif Nat.beq pc 847 then en (.iconst 0) 0 0 0 0 else none) else
(bif Nat.blt pc 849 then
(bif Nat.beq pc 848 then en (.ireturn) 0 0 0 0 else none) else
(bif Nat.beq pc 849 then en (.iload 6) 0 0 0 0 else none)))))) else
(bif Nat.blt pc 869 then
(bif Nat.blt pc 859 then
(bif Nat.blt pc 855 then
(bif Nat.blt pc 854 then
(bif Nat.beq pc 851 then en (.ifCond .ne 15) 866 0 0 0 else none) else
(bif Nat.beq pc 854 then en (.aload_n 3) 0 0 0 0 else none)) else
(bif Nat.blt pc 856 then
(bif Nat.beq pc 855 then en (.iconst 0) 0 0 0 0 else none) else
(bif Nat.blt pc 857 then
(bif Nat.beq pc 856 then en (.laload) 0 0 0 0 else none) else
(bif Nat.beq pc 857 then en (.iload 7) 0 0 0 0 else none)))) else
(bif Nat.blt pc 864 then
(bif Nat.blt pc 860 then
(bif Nat.beq pc 859 then en (.i2l) 0 0 0 0 else none) else
(bif Nat.blt pc 861 then
(bif Nat.beq pc 860 then en (.lcmp) 0 0 0 0 else none) else
(bif Nat.beq pc 861 then en (.ifCond .eq 5) 866 0 0 0 else none))) else
(bif Nat.blt pc 865 then
(bif Nat.beq pc 864 then en (.iconst 0) 0 0 0 0 else none) else
(bif Nat.blt pc 866 then
(bif Nat.beq pc 865 then en (.ireturn) 0 0 0 0 else none) else
(bif Nat.beq pc 866 then en (.goto 1605) 2471 0 0 0 else none))))) else
(bif Nat.blt pc 875 then
(bif Nat.blt pc 871 then
(bif Nat.blt pc 870 then
(bif Nat.beq pc 869 then en (.aload_n 1) 0 0 0 0 else none) else
(bif Nat.beq pc 870 then en (.aload_n 0) 0 0 0 0 else none)) else
(bif Nat.blt pc 873 then
(bif Nat.beq pc 871 then en (.iload 5) 0 0 0 0 else none) else
(bif Nat.blt pc 874 then
(bif Nat.beq pc 873 then en (.iconst 1) 0 0 0 0 else none) else
(bif Nat.beq pc 874 then en (.iadd) 0 0 0 0 else none)))) else
(bif Nat.blt pc 880 then
(bif Nat.blt pc 876 then
(bif Nat.beq pc 875 then en (.iaload) 0 0 0 0 else none) else
(bif Nat.blt pc 877 then
(bif Nat.beq pc 876 then en (.aload_n 3) 0 0 0 0 else none) else
(bif Nat.beq pc 877 then en (.invokestatic 187) 254 5 1125 0 else none))) else
(bif Nat.blt pc 882 then
(bif Nat.beq pc 880 then en (.istore 6) 0 0 0 0 else none) else
(bif Nat.blt pc 883 then
(bif Nat.beq pc 882 then en (.aload_n 2) 0 0 0 0 else none) else
(bif Nat.beq pc 883 then en (.aload_n 0) 0 0 0 0 else none)))))))) else
(bif Nat.blt pc 954 then
(bif Nat.blt pc 920 then
(bif Nat.blt pc 903 then
(bif Nat.blt pc 892 then
(bif Nat.blt pc 887 then
(bif Nat.blt pc 886 then
(bif Nat.beq pc 884 then en (.iload 5) 0 0 0 0 else none) else
(bif Nat.beq pc 886 then en (.iconst 1) 0 0 0 0 else none)) else
(bif Nat.blt pc 888 then
(bif Nat.beq pc 887 then en (.iadd) 0 0 0 0 else none) else
(bif Nat.blt pc 889 then
(bif Nat.beq pc 888 then en (.iaload) 0 0 0 0 else none) else
(bif Nat.beq pc 889 then en (.invokevirtual 189) 194 0 1744 174605 else none)))) else
(bif Nat.blt pc 895 then
(bif Nat.blt pc 894 then
(bif Nat.beq pc 892 then en (.istore 7) 0 0 0 0 else none) else
(bif Nat.beq pc 894 then en (.aload_n 2) 0 0 0 0 else none)) else
(bif Nat.blt pc 898 then
(bif Nat.beq pc 895 then en (.invokevirtual 151) 149 0 1563 156505 else none) else
(bif Nat.blt pc 900 then
(bif Nat.beq pc 898 then en (.iload 6) 0 0 0 0 else none) else
(bif Nat.beq pc 900 then en (.if_icmp .eq 5) 905 0 0 0 else none))))) else
(bif Nat.blt pc 911 then
(bif Nat.blt pc 905 then
(bif Nat.blt pc 904 then
(bif Nat.beq pc 903 then en (.iconst 0) 0 0 0 0 else none) else
(bif Nat.beq pc 904 then en (.ireturn) 0 0 0 0 else none)) else
(bif Nat.blt pc 907 then
(bif Nat.beq pc 905 then en (.iload 6) 0 0 0 0 else none) else
(bif Nat.blt pc 910 then
(bif Nat.beq pc 907 then en (.ifCond .ne 15) 922 0 0 0 else none) else
(bif Nat.beq pc 910 then en (.aload_n 3) 0 0 0 0 else none)))) else
(bif Nat.blt pc 915 then
(bif Nat.blt pc 912 then
(bif Nat.beq pc 911 then en (.iconst 0) 0 0 0 0 else none) else
(bif Nat.blt pc 913 then
(bif Nat.beq pc 912 then en (.laload) 0 0 0 0 else none) else
(bif Nat.beq pc 913 then en (.iload 7) 0 0 0 0 else none))) else
(bif Nat.blt pc 916 then
(bif Nat.beq pc 915 then en (.i2l) 0 0 0 0 else none) else
(bif Nat.blt pc 917 then
(bif Nat.beq pc 916 then en (.lcmp) 0 0 0 0 else none) else
(bif Nat.beq pc 917 then en (.ifCond .eq 5) 922 0 0 0 else none)))))) else
(bif Nat.blt pc 936 then
(bif Nat.blt pc 927 then
(bif Nat.blt pc 922 then
(bif Nat.blt pc 921 then
(bif Nat.beq pc 920 then en (.iconst 0) 0 0 0 0 else none) else
(bif Nat.beq pc 921 then en (.ireturn) 0 0 0 0 else none)) else
(bif Nat.blt pc 925 then
(bif Nat.beq pc 922 then en (.goto 1549) 2471 0 0 0 else none) else
(bif Nat.blt pc 926 then
(bif Nat.beq pc 925 then en (.aload_n 1) 0 0 0 0 else none) else
(bif Nat.beq pc 926 then en (.aload_n 0) 0 0 0 0 else none)))) else
(bif Nat.blt pc 931 then
(bif Nat.blt pc 929 then
(bif Nat.beq pc 927 then en (.iload 5) 0 0 0 0 else none) else
(bif Nat.blt pc 930 then
(bif Nat.beq pc 929 then en (.iconst 1) 0 0 0 0 else none) else
(bif Nat.beq pc 930 then en (.iadd) 0 0 0 0 else none))) else
(bif Nat.blt pc 932 then
(bif Nat.beq pc 931 then en (.iaload) 0 0 0 0 else none) else
(bif Nat.blt pc 933 then
(bif Nat.beq pc 932 then en (.aload_n 3) 0 0 0 0 else none) else
(bif Nat.beq pc 933 then en (.invokestatic 190) 255 5 1138 0 else none))))) else
(bif Nat.blt pc 943 then
(bif Nat.blt pc 939 then
(bif Nat.blt pc 938 then
(bif Nat.beq pc 936 then en (.istore 6) 0 0 0 0 else none) else
(bif Nat.beq pc 938 then en (.aload_n 2) 0 0 0 0 else none)) else
(bif Nat.blt pc 940 then
(bif Nat.beq pc 939 then en (.aload_n 0) 0 0 0 0 else none) else
(bif Nat.blt pc 942 then
(bif Nat.beq pc 940 then en (.iload 5) 0 0 0 0 else none) else
(bif Nat.beq pc 942 then en (.iconst 1) 0 0 0 0 else none)))) else
(bif Nat.blt pc 948 then
(bif Nat.blt pc 944 then
(bif Nat.beq pc 943 then en (.iadd) 0 0 0 0 else none) else
(bif Nat.blt pc 945 then
(bif Nat.beq pc 944 then en (.iaload) 0 0 0 0 else none) else
(bif Nat.beq pc 945 then en (.invokevirtual 192) 195 0 1752 175405 else none))) else
(bif Nat.blt pc 950 then
(bif Nat.beq pc 948 then en (.istore 7) 0 0 0 0 else none) else
(bif Nat.blt pc 951 then
(bif Nat.beq pc 950 then en (.aload_n 2) 0 0 0 0 else none) else
(bif Nat.beq pc 951 then en (.invokevirtual 151) 149 0 1563 156505 else none))))))) else
(bif Nat.blt pc 992 then
(bif Nat.blt pc 974 then
(bif Nat.blt pc 963 then
(bif Nat.blt pc 959 then
(bif Nat.blt pc 956 then
(bif Nat.beq pc 954 then en (.iload 6) 0 0 0 0 else none) else
(bif Nat.beq pc 956 then en (.if_icmp .eq 5) 961 0 0 0 else none)) else
(bif Nat.blt pc 960 then
(bif Nat.beq pc 959 then en (.iconst 0) 0 0 0 0 else none) else
(bif Nat.blt pc 961 then
(bif Nat.beq pc 960 then en (.ireturn) 0 0 0 0 else none) else
(bif Nat.beq pc 961 then en (.iload 6) 0 0 0 0 else none)))) else
(bif Nat.blt pc 968 then
(bif Nat.blt pc 966 then
(bif Nat.beq pc 963 then en (.ifCond .ne 22) 985 0 0 0 else none) else
(bif Nat.blt pc 967 then
(bif Nat.beq pc 966 then en (.aload_n 3) 0 0 0 0 else none) else
(bif Nat.beq pc 967 then en (.iconst 0) 0 0 0 0 else none))) else
(bif Nat.blt pc 969 then
(bif Nat.beq pc 968 then en (.laload) 0 0 0 0 else none) else
(bif Nat.blt pc 971 then
(bif Nat.beq pc 969 then en (.iload 7) 0 0 0 0 else none) else
(bif Nat.beq pc 971 then en (.ifCond .eq 7) 978 0 0 0 else none))))) else
(bif Nat.blt pc 983 then
(bif Nat.blt pc 978 then
(bif Nat.blt pc 975 then
(bif Nat.beq pc 974 then en (.lconst 1) 0 0 0 0 else none) else
(bif Nat.beq pc 975 then en (.goto 4) 979 0 0 0 else none)) else
(bif Nat.blt pc 979 then
(bif Nat.beq pc 978 then en (.lconst 0) 0 0 0 0 else none) else
(bif Nat.blt pc 980 then
(bif Nat.beq pc 979 then en (.lcmp) 0 0 0 0 else none) else
(bif Nat.beq pc 980 then en (.ifCond .eq 5) 985 0 0 0 else none)))) else
(bif Nat.blt pc 988 then
(bif Nat.blt pc 984 then
(bif Nat.beq pc 983 then en (.iconst 0) 0 0 0 0 else none) else
(bif Nat.blt pc 985 then
(bif Nat.beq pc 984 then en (.ireturn) 0 0 0 0 else none) else
(bif Nat.beq pc 985 then en (.goto 1486) 2471 0 0 0 else none))) else
(bif Nat.blt pc 989 then
(bif Nat.beq pc 988 then en (.aload_n 1) 0 0 0 0 else none) else
(bif Nat.blt pc 990 then
(bif Nat.beq pc 989 then en (.aload_n 0) 0 0 0 0 else none) else
(bif Nat.beq pc 990 then en (.iload 5) 0 0 0 0 else none)))))) else
(bif Nat.blt pc 1007 then
(bif Nat.blt pc 999 then
(bif Nat.blt pc 994 then
(bif Nat.blt pc 993 then
(bif Nat.beq pc 992 then en (.iconst 1) 0 0 0 0 else none) else
(bif Nat.beq pc 993 then en (.iadd) 0 0 0 0 else none)) else
(bif Nat.blt pc 995 then
(bif Nat.beq pc 994 then en (.iaload) 0 0 0 0 else none) else
(bif Nat.blt pc 996 then
(bif Nat.beq pc 995 then en (.aload_n 3) 0 0 0 0 else none) else
(bif Nat.beq pc 996 then en (.invokestatic 193) 256 5 1145 0 else none)))) else
(bif Nat.blt pc 1003 then
(bif Nat.blt pc 1001 then
(bif Nat.beq pc 999 then en (.istore 6) 0 0 0 0 else none) else
(bif Nat.blt pc 1002 then
(bif Nat.beq pc 1001 then en (.aload_n 2) 0 0 0 0 else none) else
(bif Nat.beq pc 1002 then en (.aload_n 0) 0 0 0 0 else none))) else
(bif Nat.blt pc 1005 then
(bif Nat.beq pc 1003 then en (.iload 5) 0 0 0 0 else none) else
(bif Nat.blt pc 1006 then
(bif Nat.beq pc 1005 then en (.iconst 1) 0 0 0 0 else none) else
(bif Nat.beq pc 1006 then en (.iadd) 0 0 0 0 else none))))) else
(bif Nat.blt pc 1017 then
(bif Nat.blt pc 1011 then
(bif Nat.blt pc 1008 then
(bif Nat.beq pc 1007 then en (.iaload) 0 0 0 0 else none) else
(bif Nat.beq pc 1008 then en (.invokevirtual 195) 196 0 1756 175805 else none)) else
(bif Nat.blt pc 1013 then
(bif Nat.beq pc 1011 then en (.istore 7) 0 0 0 0 else none) else
(bif Nat.blt pc 1014 then
(bif Nat.beq pc 1013 then en (.aload_n 2) 0 0 0 0 else none) else
(bif Nat.beq pc 1014 then en (.invokevirtual 151) 149 0 1563 156505 else none)))) else
(bif Nat.blt pc 1023 then
(bif Nat.blt pc 1019 then
(bif Nat.beq pc 1017 then en (.iload 6) 0 0 0 0 else none) else
(bif Nat.blt pc 1022 then
(bif Nat.beq pc 1019 then en (.if_icmp .eq 5) 1024 0 0 0 else none) else
(bif Nat.beq pc 1022 then en (.iconst 0) 0 0 0 0 else none))) else
(bif Nat.blt pc 1024 then
(bif Nat.beq pc 1023 then en (.ireturn) 0 0 0 0 else none) else
(bif Nat.blt pc 1026 then
(bif Nat.beq pc 1024 then en (.iload 6) 0 0 0 0 else none) else
(bif Nat.beq pc 1026 then en (.ifCond .ne 15) 1041 0 0 0 else none))))))))) else
(bif Nat.blt pc 1159 then
(bif Nat.blt pc 1092 then
(bif Nat.blt pc 1057 then
(bif Nat.blt pc 1044 then
(bif Nat.blt pc 1035 then
(bif Nat.blt pc 1031 then
(bif Nat.blt pc 1030 then
(bif Nat.beq pc 1029 then en (.aload_n 3) 0 0 0 0 else none) else
(bif Nat.beq pc 1030 then en (.iconst 0) 0 0 0 0 else none)) else
(bif Nat.blt pc 1032 then
(bif Nat.beq pc 1031 then en (.laload) 0 0 0 0 else none) else
(bif Nat.blt pc 1034 then
(bif Nat.beq pc 1032 then en (.iload 7) 0 0 0 0 else none) else
(bif Nat.beq pc 1034 then en (.i2l) 0 0 0 0 else none)))) else
(bif Nat.blt pc 1039 then
(bif Nat.blt pc 1036 then
(bif Nat.beq pc 1035 then en (.lcmp) 0 0 0 0 else none) else
(bif Nat.beq pc 1036 then en (.ifCond .eq 5) 1041 0 0 0 else none)) else
(bif Nat.blt pc 1040 then
(bif Nat.beq pc 1039 then en (.iconst 0) 0 0 0 0 else none) else
(bif Nat.blt pc 1041 then
(bif Nat.beq pc 1040 then en (.ireturn) 0 0 0 0 else none) else
(bif Nat.beq pc 1041 then en (.goto 1430) 2471 0 0 0 else none))))) else
(bif Nat.blt pc 1050 then
(bif Nat.blt pc 1046 then
(bif Nat.blt pc 1045 then
(bif Nat.beq pc 1044 then en (.aload_n 1) 0 0 0 0 else none) else
(bif Nat.beq pc 1045 then en (.aload_n 0) 0 0 0 0 else none)) else
(bif Nat.blt pc 1048 then
(bif Nat.beq pc 1046 then en (.iload 5) 0 0 0 0 else none) else
(bif Nat.blt pc 1049 then
(bif Nat.beq pc 1048 then en (.iconst 1) 0 0 0 0 else none) else
(bif Nat.beq pc 1049 then en (.iadd) 0 0 0 0 else none)))) else
(bif Nat.blt pc 1054 then
(bif Nat.blt pc 1051 then
(bif Nat.beq pc 1050 then en (.iaload) 0 0 0 0 else none) else
(bif Nat.blt pc 1052 then
(bif Nat.beq pc 1051 then en (.aload_n 0) 0 0 0 0 else none) else
(bif Nat.beq pc 1052 then en (.iload 5) 0 0 0 0 else none))) else
(bif Nat.blt pc 1055 then
(bif Nat.beq pc 1054 then en (.iconst 2) 0 0 0 0 else none) else
(bif Nat.blt pc 1056 then
(bif Nat.beq pc 1055 then en (.iadd) 0 0 0 0 else none) else
(bif Nat.beq pc 1056 then en (.iaload) 0 0 0 0 else none)))))) else
(bif Nat.blt pc 1073 then
(bif Nat.blt pc 1065 then
(bif Nat.blt pc 1061 then
(bif Nat.blt pc 1058 then
(bif Nat.beq pc 1057 then en (.aload_n 3) 0 0 0 0 else none) else
(bif Nat.beq pc 1058 then en (.invokestatic 196) 257 5 1153 0 else none)) else
(bif Nat.blt pc 1063 then
(bif Nat.beq pc 1061 then en (.istore 6) 0 0 0 0 else none) else
(bif Nat.blt pc 1064 then
(bif Nat.beq pc 1063 then en (.aload_n 2) 0 0 0 0 else none) else
(bif Nat.beq pc 1064 then en (.aload_n 0) 0 0 0 0 else none)))) else
(bif Nat.blt pc 1069 then
(bif Nat.blt pc 1067 then
(bif Nat.beq pc 1065 then en (.iload 5) 0 0 0 0 else none) else
(bif Nat.blt pc 1068 then
(bif Nat.beq pc 1067 then en (.iconst 1) 0 0 0 0 else none) else
(bif Nat.beq pc 1068 then en (.iadd) 0 0 0 0 else none))) else
(bif Nat.blt pc 1070 then
(bif Nat.beq pc 1069 then en (.iaload) 0 0 0 0 else none) else
(bif Nat.blt pc 1071 then
(bif Nat.beq pc 1070 then en (.aload_n 0) 0 0 0 0 else none) else
(bif Nat.beq pc 1071 then en (.iload 5) 0 0 0 0 else none))))) else
(bif Nat.blt pc 1081 then
(bif Nat.blt pc 1075 then
(bif Nat.blt pc 1074 then
(bif Nat.beq pc 1073 then en (.iconst 2) 0 0 0 0 else none) else
(bif Nat.beq pc 1074 then en (.iadd) 0 0 0 0 else none)) else
(bif Nat.blt pc 1076 then
(bif Nat.beq pc 1075 then en (.iaload) 0 0 0 0 else none) else
(bif Nat.blt pc 1079 then
(bif Nat.beq pc 1076 then en (.invokevirtual 198) 197 0 1760 176205 else none) else
(bif Nat.beq pc 1079 then en (.istore 7) 0 0 0 0 else none)))) else
(bif Nat.blt pc 1087 then
(bif Nat.blt pc 1082 then
(bif Nat.beq pc 1081 then en (.aload_n 2) 0 0 0 0 else none) else
(bif Nat.blt pc 1085 then
(bif Nat.beq pc 1082 then en (.invokevirtual 151) 149 0 1563 156505 else none) else
(bif Nat.beq pc 1085 then en (.iload 6) 0 0 0 0 else none))) else
(bif Nat.blt pc 1090 then
(bif Nat.beq pc 1087 then en (.if_icmp .eq 5) 1092 0 0 0 else none) else
(bif Nat.blt pc 1091 then
(bif Nat.beq pc 1090 then en (.iconst 0) 0 0 0 0 else none) else
(bif Nat.beq pc 1091 then en (.ireturn) 0 0 0 0 else none))))))) else
(bif Nat.blt pc 1124 then
(bif Nat.blt pc 1109 then
(bif Nat.blt pc 1100 then
(bif Nat.blt pc 1097 then
(bif Nat.blt pc 1094 then
(bif Nat.beq pc 1092 then en (.iload 6) 0 0 0 0 else none) else
(bif Nat.beq pc 1094 then en (.ifCond .ne 15) 1109 0 0 0 else none)) else
(bif Nat.blt pc 1098 then
(bif Nat.beq pc 1097 then en (.aload_n 3) 0 0 0 0 else none) else
(bif Nat.blt pc 1099 then
(bif Nat.beq pc 1098 then en (.iconst 0) 0 0 0 0 else none) else
(bif Nat.beq pc 1099 then en (.laload) 0 0 0 0 else none)))) else
(bif Nat.blt pc 1104 then
(bif Nat.blt pc 1102 then
(bif Nat.beq pc 1100 then en (.iload 7) 0 0 0 0 else none) else
(bif Nat.blt pc 1103 then
(bif Nat.beq pc 1102 then en (.i2l) 0 0 0 0 else none) else
(bif Nat.beq pc 1103 then en (.lcmp) 0 0 0 0 else none))) else
(bif Nat.blt pc 1107 then
(bif Nat.beq pc 1104 then en (.ifCond .eq 5) 1109 0 0 0 else none) else
(bif Nat.blt pc 1108 then
(bif Nat.beq pc 1107 then en (.iconst 0) 0 0 0 0 else none) else
(bif Nat.beq pc 1108 then en (.ireturn) 0 0 0 0 else none))))) else
(bif Nat.blt pc 1117 then
(bif Nat.blt pc 1113 then
(bif Nat.blt pc 1112 then
(bif Nat.beq pc 1109 then en (.goto 1362) 2471 0 0 0 else none) else
(bif Nat.beq pc 1112 then en (.aload_n 1) 0 0 0 0 else none)) else
(bif Nat.blt pc 1114 then
(bif Nat.beq pc 1113 then en (.aload_n 0) 0 0 0 0 else none) else
(bif Nat.blt pc 1116 then
(bif Nat.beq pc 1114 then en (.iload 5) 0 0 0 0 else none) else
(bif Nat.beq pc 1116 then en (.iconst 1) 0 0 0 0 else none)))) else
(bif Nat.blt pc 1120 then
(bif Nat.blt pc 1118 then
(bif Nat.beq pc 1117 then en (.iadd) 0 0 0 0 else none) else
(bif Nat.blt pc 1119 then
(bif Nat.beq pc 1118 then en (.iaload) 0 0 0 0 else none) else
(bif Nat.beq pc 1119 then en (.aload_n 0) 0 0 0 0 else none))) else
(bif Nat.blt pc 1122 then
(bif Nat.beq pc 1120 then en (.iload 5) 0 0 0 0 else none) else
(bif Nat.blt pc 1123 then
(bif Nat.beq pc 1122 then en (.iconst 2) 0 0 0 0 else none) else
(bif Nat.beq pc 1123 then en (.iadd) 0 0 0 0 else none)))))) else
(bif Nat.blt pc 1139 then
(bif Nat.blt pc 1132 then
(bif Nat.blt pc 1126 then
(bif Nat.blt pc 1125 then
(bif Nat.beq pc 1124 then en (.iaload) 0 0 0 0 else none) else
(bif Nat.beq pc 1125 then en (.aload_n 3) 0 0 0 0 else none)) else
(bif Nat.blt pc 1129 then
(bif Nat.beq pc 1126 then en (.invokestatic 199) 258 5 1161 0 else none) else
(bif Nat.blt pc 1131 then
(bif Nat.beq pc 1129 then en (.istore 6) 0 0 0 0 else none) else
(bif Nat.beq pc 1131 then en (.aload_n 2) 0 0 0 0 else none)))) else
(bif Nat.blt pc 1136 then
(bif Nat.blt pc 1133 then
(bif Nat.beq pc 1132 then en (.aload_n 0) 0 0 0 0 else none) else
(bif Nat.blt pc 1135 then
(bif Nat.beq pc 1133 then en (.iload 5) 0 0 0 0 else none) else
(bif Nat.beq pc 1135 then en (.iconst 1) 0 0 0 0 else none))) else
(bif Nat.blt pc 1137 then
(bif Nat.beq pc 1136 then en (.iadd) 0 0 0 0 else none) else
(bif Nat.blt pc 1138 then
(bif Nat.beq pc 1137 then en (.iaload) 0 0 0 0 else none) else
(bif Nat.beq pc 1138 then en (.aload_n 0) 0 0 0 0 else none))))) else
(bif Nat.blt pc 1147 then
(bif Nat.blt pc 1142 then
(bif Nat.blt pc 1141 then
(bif Nat.beq pc 1139 then en (.iload 5) 0 0 0 0 else none) else
(bif Nat.beq pc 1141 then en (.iconst 2) 0 0 0 0 else none)) else
(bif Nat.blt pc 1143 then
(bif Nat.beq pc 1142 then en (.iadd) 0 0 0 0 else none) else
(bif Nat.blt pc 1144 then
(bif Nat.beq pc 1143 then en (.iaload) 0 0 0 0 else none) else
(bif Nat.beq pc 1144 then en (.invokevirtual 201) 198 0 1764 176605 else none)))) else
(bif Nat.blt pc 1153 then
(bif Nat.blt pc 1149 then
(bif Nat.beq pc 1147 then en (.istore 7) 0 0 0 0 else none) else
(bif Nat.blt pc 1150 then
(bif Nat.beq pc 1149 then en (.aload_n 2) 0 0 0 0 else none) else
(bif Nat.beq pc 1150 then en (.invokevirtual 151) 149 0 1563 156505 else none))) else
(bif Nat.blt pc 1155 then
(bif Nat.beq pc 1153 then en (.iload 6) 0 0 0 0 else none) else
(bif Nat.blt pc 1158 then
(bif Nat.beq pc 1155 then en (.if_icmp .eq 5) 1160 0 0 0 else none) else
(bif Nat.beq pc 1158 then en (.iconst 0) 0 0 0 0 else none)))))))) else
(bif Nat.blt pc 1226 then
(bif Nat.blt pc 1195 then
(bif Nat.blt pc 1176 then
(bif Nat.blt pc 1167 then
(bif Nat.blt pc 1162 then
(bif Nat.blt pc 1160 then
(bif Nat.beq pc 1159 then en (.ireturn) 0 0 0 0 else none) else
(bif Nat.beq pc 1160 then en (.iload 6) 0 0 0 0 else none)) else
(bif Nat.blt pc 1165 then
(bif Nat.beq pc 1162 then en (.ifCond .ne 15) 1177 0 0 0 else none) else
(bif Nat.blt pc 1166 then
(bif Nat.beq pc 1165 then en (.aload_n 3) 0 0 0 0 else none) else
(bif Nat.beq pc 1166 then en (.iconst 0) 0 0 0 0 else none)))) else
(bif Nat.blt pc 1171 then
(bif Nat.blt pc 1168 then
(bif Nat.beq pc 1167 then en (.laload) 0 0 0 0 else none) else
(bif Nat.blt pc 1170 then
(bif Nat.beq pc 1168 then en (.iload 7) 0 0 0 0 else none) else
(bif Nat.beq pc 1170 then en (.i2l) 0 0 0 0 else none))) else
(bif Nat.blt pc 1172 then
(bif Nat.beq pc 1171 then en (.lcmp) 0 0 0 0 else none) else
(bif Nat.blt pc 1175 then
(bif Nat.beq pc 1172 then en (.ifCond .eq 5) 1177 0 0 0 else none) else
(bif Nat.beq pc 1175 then en (.iconst 0) 0 0 0 0 else none))))) else
(bif Nat.blt pc 1185 then
(bif Nat.blt pc 1180 then
(bif Nat.blt pc 1177 then
(bif Nat.beq pc 1176 then en (.ireturn) 0 0 0 0 else none) else
(bif Nat.beq pc 1177 then en (.goto 1294) 2471 0 0 0 else none)) else
(bif Nat.blt pc 1181 then
(bif Nat.beq pc 1180 then en (.aload_n 1) 0 0 0 0 else none) else
(bif Nat.blt pc 1184 then
(bif Nat.beq pc 1181 then en (.invokevirtual 202) 111 0 365 36700 else none) else
(bif Nat.beq pc 1184 then en (.aload_n 2) 0 0 0 0 else none)))) else
(bif Nat.blt pc 1192 then
(bif Nat.blt pc 1188 then
(bif Nat.beq pc 1185 then en (.invokevirtual 205) 199 0 1769 177105 else none) else
(bif Nat.blt pc 1191 then
(bif Nat.beq pc 1188 then en (.if_icmp .eq 1283) 2471 0 0 0 else none) else
(bif Nat.beq pc 1191 then en (.iconst 0) 0 0 0 0 else none))) else
(bif Nat.blt pc 1193 then
(bif Nat.beq pc 1192 then en (.ireturn) 0 0 0 0 else none) else
(bif Nat.blt pc 1194 then
(bif Nat.beq pc 1193 then en (.aload_n 1) 0 0 0 0 else none) else
(bif Nat.beq pc 1194 then en (.aload_n 0) 0 0 0 0 else none)))))) else
(bif Nat.blt pc 1210 then
(bif Nat.blt pc 1203 then
(bif Nat.blt pc 1198 then
(bif Nat.blt pc 1197 then
(bif Nat.beq pc 1195 then en (.iload 5) 0 0 0 0 else none) else
(bif Nat.beq pc 1197 then en (.iconst 1) 0 0 0 0 else none)) else
(bif Nat.blt pc 1199 then
(bif Nat.beq pc 1198 then en (.iadd) 0 0 0 0 else none) else
(bif Nat.blt pc 1200 then
(bif Nat.beq pc 1199 then en (.iaload) 0 0 0 0 else none) else
(bif Nat.beq pc 1200 then en (.invokevirtual 206) 112 0 369 37100 else none)))) else
(bif Nat.blt pc 1207 then
(bif Nat.blt pc 1204 then
(bif Nat.beq pc 1203 then en (.aload_n 2) 0 0 0 0 else none) else
(bif Nat.blt pc 1205 then
(bif Nat.beq pc 1204 then en (.aload_n 0) 0 0 0 0 else none) else
(bif Nat.beq pc 1205 then en (.iload 5) 0 0 0 0 else none))) else
(bif Nat.blt pc 1208 then
(bif Nat.beq pc 1207 then en (.iconst 1) 0 0 0 0 else none) else
(bif Nat.blt pc 1209 then
(bif Nat.beq pc 1208 then en (.iadd) 0 0 0 0 else none) else
(bif Nat.beq pc 1209 then en (.iaload) 0 0 0 0 else none))))) else
(bif Nat.blt pc 1219 then
(bif Nat.blt pc 1216 then
(bif Nat.blt pc 1213 then
(bif Nat.beq pc 1210 then en (.invokevirtual 209) 200 0 1773 177505 else none) else
(bif Nat.beq pc 1213 then en (.if_icmp .eq 1258) 2471 0 0 0 else none)) else
(bif Nat.blt pc 1217 then
(bif Nat.beq pc 1216 then en (.iconst 0) 0 0 0 0 else none) else
(bif Nat.blt pc 1218 then
(bif Nat.beq pc 1217 then en (.ireturn) 0 0 0 0 else none) else
(bif Nat.beq pc 1218 then en (.aload_n 1) 0 0 0 0 else none)))) else
(bif Nat.blt pc 1223 then
(bif Nat.blt pc 1220 then
(bif Nat.beq pc 1219 then en (.aload_n 0) 0 0 0 0 else none) else
(bif Nat.blt pc 1222 then
(bif Nat.beq pc 1220 then en (.iload 5) 0 0 0 0 else none) else
(bif Nat.beq pc 1222 then en (.iconst 1) 0 0 0 0 else none))) else
(bif Nat.blt pc 1224 then
(bif Nat.beq pc 1223 then en (.iadd) 0 0 0 0 else none) else
(bif Nat.blt pc 1225 then
(bif Nat.beq pc 1224 then en (.iaload) 0 0 0 0 else none) else
(bif Nat.beq pc 1225 then en (.aload_n 3) 0 0 0 0 else none))))))) else
(bif Nat.blt pc 1264 then
(bif Nat.blt pc 1244 then
(bif Nat.blt pc 1235 then
(bif Nat.blt pc 1231 then
(bif Nat.blt pc 1229 then
(bif Nat.beq pc 1226 then en (.invokestatic 210) 259 5 1169 0 else none) else
(bif Nat.beq pc 1229 then en (.istore 6) 0 0 0 0 else none)) else
(bif Nat.blt pc 1232 then
(bif Nat.beq pc 1231 then en (.aload_n 2) 0 0 0 0 else none) else
(bif Nat.blt pc 1233 then
(bif Nat.beq pc 1232 then en (.aload_n 0) 0 0 0 0 else none) else
(bif Nat.beq pc 1233 then en (.iload 5) 0 0 0 0 else none)))) else
(bif Nat.blt pc 1238 then
(bif Nat.blt pc 1236 then
(bif Nat.beq pc 1235 then en (.iconst 1) 0 0 0 0 else none) else
(bif Nat.blt pc 1237 then
(bif Nat.beq pc 1236 then en (.iadd) 0 0 0 0 else none) else
(bif Nat.beq pc 1237 then en (.iaload) 0 0 0 0 else none))) else
(bif Nat.blt pc 1241 then
(bif Nat.beq pc 1238 then en (.invokevirtual 212) 202 0 1777 177905 else none) else
(bif Nat.blt pc 1243 then
(bif Nat.beq pc 1241 then en (.istore 7) 0 0 0 0 else none) else
(bif Nat.beq pc 1243 then en (.aload_n 2) 0 0 0 0 else none))))) else
(bif Nat.blt pc 1254 then
(bif Nat.blt pc 1249 then
(bif Nat.blt pc 1247 then
(bif Nat.beq pc 1244 then en (.invokevirtual 151) 149 0 1563 156505 else none) else
(bif Nat.beq pc 1247 then en (.iload 6) 0 0 0 0 else none)) else
(bif Nat.blt pc 1252 then
(bif Nat.beq pc 1249 then en (.if_icmp .eq 5) 1254 0 0 0 else none) else
(bif Nat.blt pc 1253 then
(bif Nat.beq pc 1252 then en (.iconst 0) 0 0 0 0 else none) else
(bif Nat.beq pc 1253 then en (.ireturn) 0 0 0 0 else none)))) else
(bif Nat.blt pc 1260 then
(bif Nat.blt pc 1256 then
(bif Nat.beq pc 1254 then en (.iload 6) 0 0 0 0 else none) else
(bif Nat.blt pc 1259 then
(bif Nat.beq pc 1256 then en (.ifCond .ne 22) 1278 0 0 0 else none) else
(bif Nat.beq pc 1259 then en (.aload_n 3) 0 0 0 0 else none))) else
(bif Nat.blt pc 1261 then
(bif Nat.beq pc 1260 then en (.iconst 0) 0 0 0 0 else none) else
(bif Nat.blt pc 1262 then
(bif Nat.beq pc 1261 then en (.laload) 0 0 0 0 else none) else
(bif Nat.beq pc 1262 then en (.iload 7) 0 0 0 0 else none)))))) else
(bif Nat.blt pc 1283 then
(bif Nat.blt pc 1273 then
(bif Nat.blt pc 1268 then
(bif Nat.blt pc 1267 then
(bif Nat.beq pc 1264 then en (.ifCond .eq 7) 1271 0 0 0 else none) else
(bif Nat.beq pc 1267 then en (.lconst 1) 0 0 0 0 else none)) else
(bif Nat.blt pc 1271 then
(bif Nat.beq pc 1268 then en (.goto 4) 1272 0 0 0 else none) else
(bif Nat.blt pc 1272 then
(bif Nat.beq pc 1271 then en (.lconst 0) 0 0 0 0 else none) else
(bif Nat.beq pc 1272 then en (.lcmp) 0 0 0 0 else none)))) else
(bif Nat.blt pc 1278 then
(bif Nat.blt pc 1276 then
(bif Nat.beq pc 1273 then en (.ifCond .eq 5) 1278 0 0 0 else none) else
(bif Nat.blt pc 1277 then
(bif Nat.beq pc 1276 then en (.iconst 0) 0 0 0 0 else none) else
(bif Nat.beq pc 1277 then en (.ireturn) 0 0 0 0 else none))) else
(bif Nat.blt pc 1281 then
(bif Nat.beq pc 1278 then en (.goto 1193) 2471 0 0 0 else none) else
(bif Nat.blt pc 1282 then
(bif Nat.beq pc 1281 then en (.aload_n 1) 0 0 0 0 else none) else
(bif Nat.beq pc 1282 then en (.aload_n 0) 0 0 0 0 else none))))) else
(bif Nat.blt pc 1289 then
(bif Nat.blt pc 1286 then
(bif Nat.blt pc 1285 then
(bif Nat.beq pc 1283 then en (.iload 5) 0 0 0 0 else none) else
(bif Nat.beq pc 1285 then en (.iconst 1) 0 0 0 0 else none)) else
(bif Nat.blt pc 1287 then
(bif Nat.beq pc 1286 then en (.iadd) 0 0 0 0 else none) else
(bif Nat.blt pc 1288 then
(bif Nat.beq pc 1287 then en (.iaload) 0 0 0 0 else none) else
(bif Nat.beq pc 1288 then en (.aload_n 3) 0 0 0 0 else none)))) else
(bif Nat.blt pc 1295 then
(bif Nat.blt pc 1292 then
(bif Nat.beq pc 1289 then en (.invokestatic 213) 260 5 1181 0 else none) else
(bif Nat.blt pc 1294 then
(bif Nat.beq pc 1292 then en (.istore 6) 0 0 0 0 else none) else
(bif Nat.beq pc 1294 then en (.aload_n 2) 0 0 0 0 else none))) else
(bif Nat.blt pc 1296 then
(bif Nat.beq pc 1295 then en (.aload_n 0) 0 0 0 0 else none) else
(bif Nat.blt pc 1298 then
(bif Nat.beq pc 1296 then en (.iload 5) 0 0 0 0 else none) else
(bif Nat.beq pc 1298 then en (.iconst 1) 0 0 0 0 else none))))))))))) else
(bif Nat.blt pc 1871 then
(bif Nat.blt pc 1581 then
(bif Nat.blt pc 1443 then
(bif Nat.blt pc 1370 then
(bif Nat.blt pc 1336 then
(bif Nat.blt pc 1317 then
(bif Nat.blt pc 1307 then
(bif Nat.blt pc 1301 then
(bif Nat.blt pc 1300 then
(bif Nat.beq pc 1299 then en (.iadd) 0 0 0 0 else none) else
(bif Nat.beq pc 1300 then en (.iaload) 0 0 0 0 else none)) else
(bif Nat.blt pc 1304 then
(bif Nat.beq pc 1301 then en (.invokevirtual 215) 203 0 1785 178705 else none) else
(bif Nat.blt pc 1306 then
(bif Nat.beq pc 1304 then en (.istore 7) 0 0 0 0 else none) else
(bif Nat.beq pc 1306 then en (.aload_n 2) 0 0 0 0 else none)))) else
(bif Nat.blt pc 1312 then
(bif Nat.blt pc 1310 then
(bif Nat.beq pc 1307 then en (.invokevirtual 151) 149 0 1563 156505 else none) else
(bif Nat.beq pc 1310 then en (.iload 6) 0 0 0 0 else none)) else
(bif Nat.blt pc 1315 then
(bif Nat.beq pc 1312 then en (.if_icmp .eq 5) 1317 0 0 0 else none) else
(bif Nat.blt pc 1316 then
(bif Nat.beq pc 1315 then en (.iconst 0) 0 0 0 0 else none) else
(bif Nat.beq pc 1316 then en (.ireturn) 0 0 0 0 else none))))) else
(bif Nat.blt pc 1325 then
(bif Nat.blt pc 1322 then
(bif Nat.blt pc 1319 then
(bif Nat.beq pc 1317 then en (.iload 6) 0 0 0 0 else none) else
(bif Nat.beq pc 1319 then en (.ifCond .ne 22) 1341 0 0 0 else none)) else
(bif Nat.blt pc 1323 then
(bif Nat.beq pc 1322 then en (.aload_n 3) 0 0 0 0 else none) else
(bif Nat.blt pc 1324 then
(bif Nat.beq pc 1323 then en (.iconst 0) 0 0 0 0 else none) else
(bif Nat.beq pc 1324 then en (.laload) 0 0 0 0 else none)))) else
(bif Nat.blt pc 1331 then
(bif Nat.blt pc 1327 then
(bif Nat.beq pc 1325 then en (.iload 7) 0 0 0 0 else none) else
(bif Nat.blt pc 1330 then
(bif Nat.beq pc 1327 then en (.ifCond .eq 7) 1334 0 0 0 else none) else
(bif Nat.beq pc 1330 then en (.lconst 1) 0 0 0 0 else none))) else
(bif Nat.blt pc 1334 then
(bif Nat.beq pc 1331 then en (.goto 4) 1335 0 0 0 else none) else
(bif Nat.blt pc 1335 then
(bif Nat.beq pc 1334 then en (.lconst 0) 0 0 0 0 else none) else
(bif Nat.beq pc 1335 then en (.lcmp) 0 0 0 0 else none)))))) else
(bif Nat.blt pc 1352 then
(bif Nat.blt pc 1345 then
(bif Nat.blt pc 1340 then
(bif Nat.blt pc 1339 then
(bif Nat.beq pc 1336 then en (.ifCond .eq 5) 1341 0 0 0 else none) else
(bif Nat.beq pc 1339 then en (.iconst 0) 0 0 0 0 else none)) else
(bif Nat.blt pc 1341 then
(bif Nat.beq pc 1340 then en (.ireturn) 0 0 0 0 else none) else
(bif Nat.blt pc 1344 then
(bif Nat.beq pc 1341 then en (.goto 1130) 2471 0 0 0 else none) else
(bif Nat.beq pc 1344 then en (.aload_n 1) 0 0 0 0 else none)))) else
(bif Nat.blt pc 1349 then
(bif Nat.blt pc 1346 then
(bif Nat.beq pc 1345 then en (.aload_n 0) 0 0 0 0 else none) else
(bif Nat.blt pc 1348 then
(bif Nat.beq pc 1346 then en (.iload 5) 0 0 0 0 else none) else
(bif Nat.beq pc 1348 then en (.iconst 1) 0 0 0 0 else none))) else
(bif Nat.blt pc 1350 then
(bif Nat.beq pc 1349 then en (.iadd) 0 0 0 0 else none) else
(bif Nat.blt pc 1351 then
(bif Nat.beq pc 1350 then en (.iaload) 0 0 0 0 else none) else
(bif Nat.beq pc 1351 then en (.aload_n 3) 0 0 0 0 else none))))) else
(bif Nat.blt pc 1361 then
(bif Nat.blt pc 1357 then
(bif Nat.blt pc 1355 then
(bif Nat.beq pc 1352 then en (.invokestatic 216) 261 5 1188 0 else none) else
(bif Nat.beq pc 1355 then en (.istore 6) 0 0 0 0 else none)) else
(bif Nat.blt pc 1358 then
(bif Nat.beq pc 1357 then en (.aload_n 2) 0 0 0 0 else none) else
(bif Nat.blt pc 1359 then
(bif Nat.beq pc 1358 then en (.aload_n 0) 0 0 0 0 else none) else
(bif Nat.beq pc 1359 then en (.iload 5) 0 0 0 0 else none)))) else
(bif Nat.blt pc 1364 then
(bif Nat.blt pc 1362 then
(bif Nat.beq pc 1361 then en (.iconst 1) 0 0 0 0 else none) else
(bif Nat.blt pc 1363 then
(bif Nat.beq pc 1362 then en (.iadd) 0 0 0 0 else none) else
(bif Nat.beq pc 1363 then en (.iaload) 0 0 0 0 else none))) else
(bif Nat.blt pc 1367 then
(bif Nat.beq pc 1364 then en (.invokevirtual 218) 205 0 1789 179105 else none) else
(bif Nat.blt pc 1369 then
(bif Nat.beq pc 1367 then en (.istore 7) 0 0 0 0 else none) else
(bif Nat.beq pc 1369 then en (.aload_n 2) 0 0 0 0 else none))))))) else
(bif Nat.blt pc 1406 then
(bif Nat.blt pc 1390 then
(bif Nat.blt pc 1380 then
(bif Nat.blt pc 1375 then
(bif Nat.blt pc 1373 then
(bif Nat.beq pc 1370 then en (.invokevirtual 151) 149 0 1563 156505 else none) else
(bif Nat.beq pc 1373 then en (.iload 6) 0 0 0 0 else none)) else
(bif Nat.blt pc 1378 then
(bif Nat.beq pc 1375 then en (.if_icmp .eq 5) 1380 0 0 0 else none) else
(bif Nat.blt pc 1379 then
(bif Nat.beq pc 1378 then en (.iconst 0) 0 0 0 0 else none) else
(bif Nat.beq pc 1379 then en (.ireturn) 0 0 0 0 else none)))) else
(bif Nat.blt pc 1386 then
(bif Nat.blt pc 1382 then
(bif Nat.beq pc 1380 then en (.iload 6) 0 0 0 0 else none) else
(bif Nat.blt pc 1385 then
(bif Nat.beq pc 1382 then en (.ifCond .ne 15) 1397 0 0 0 else none) else
(bif Nat.beq pc 1385 then en (.aload_n 3) 0 0 0 0 else none))) else
(bif Nat.blt pc 1387 then
(bif Nat.beq pc 1386 then en (.iconst 0) 0 0 0 0 else none) else
(bif Nat.blt pc 1388 then
(bif Nat.beq pc 1387 then en (.laload) 0 0 0 0 else none) else
(bif Nat.beq pc 1388 then en (.iload 7) 0 0 0 0 else none))))) else
(bif Nat.blt pc 1397 then
(bif Nat.blt pc 1392 then
(bif Nat.blt pc 1391 then
(bif Nat.beq pc 1390 then en (.i2l) 0 0 0 0 else none) else
(bif Nat.beq pc 1391 then en (.lcmp) 0 0 0 0 else none)) else
(bif Nat.blt pc 1395 then
(bif Nat.beq pc 1392 then en (.ifCond .eq 5) 1397 0 0 0 else none) else
(bif Nat.blt pc 1396 then
(bif Nat.beq pc 1395 then en (.iconst 0) 0 0 0 0 else none) else
(bif Nat.beq pc 1396 then en (.ireturn) 0 0 0 0 else none)))) else
(bif Nat.blt pc 1402 then
(bif Nat.blt pc 1400 then
(bif Nat.beq pc 1397 then en (.goto 1074) 2471 0 0 0 else none) else
(bif Nat.blt pc 1401 then
(bif Nat.beq pc 1400 then en (.aload_n 1) 0 0 0 0 else none) else
(bif Nat.beq pc 1401 then en (.aload_n 0) 0 0 0 0 else none))) else
(bif Nat.blt pc 1404 then
(bif Nat.beq pc 1402 then en (.iload 5) 0 0 0 0 else none) else
(bif Nat.blt pc 1405 then
(bif Nat.beq pc 1404 then en (.iconst 1) 0 0 0 0 else none) else
(bif Nat.beq pc 1405 then en (.iadd) 0 0 0 0 else none)))))) else
(bif Nat.blt pc 1423 then
(bif Nat.blt pc 1414 then
(bif Nat.blt pc 1408 then
(bif Nat.blt pc 1407 then
(bif Nat.beq pc 1406 then en (.iaload) 0 0 0 0 else none) else
(bif Nat.beq pc 1407 then en (.aload_n 3) 0 0 0 0 else none)) else
(bif Nat.blt pc 1411 then
(bif Nat.beq pc 1408 then en (.invokestatic 219) 262 5 1197 0 else none) else
(bif Nat.blt pc 1413 then
(bif Nat.beq pc 1411 then en (.istore 6) 0 0 0 0 else none) else
(bif Nat.beq pc 1413 then en (.aload_n 2) 0 0 0 0 else none)))) else
(bif Nat.blt pc 1418 then
(bif Nat.blt pc 1415 then
(bif Nat.beq pc 1414 then en (.aload_n 0) 0 0 0 0 else none) else
(bif Nat.blt pc 1417 then
(bif Nat.beq pc 1415 then en (.iload 5) 0 0 0 0 else none) else
(bif Nat.beq pc 1417 then en (.iconst 1) 0 0 0 0 else none))) else
(bif Nat.blt pc 1419 then
(bif Nat.beq pc 1418 then en (.iadd) 0 0 0 0 else none) else
(bif Nat.blt pc 1420 then
(bif Nat.beq pc 1419 then en (.iaload) 0 0 0 0 else none) else
(bif Nat.beq pc 1420 then en (.invokevirtual 221) 206 0 1797 179905 else none))))) else
(bif Nat.blt pc 1434 then
(bif Nat.blt pc 1426 then
(bif Nat.blt pc 1425 then
(bif Nat.beq pc 1423 then en (.istore 7) 0 0 0 0 else none) else
(bif Nat.beq pc 1425 then en (.aload_n 2) 0 0 0 0 else none)) else
(bif Nat.blt pc 1429 then
(bif Nat.beq pc 1426 then en (.invokevirtual 151) 149 0 1563 156505 else none) else
(bif Nat.blt pc 1431 then
(bif Nat.beq pc 1429 then en (.iload 6) 0 0 0 0 else none) else
(bif Nat.beq pc 1431 then en (.if_icmp .eq 5) 1436 0 0 0 else none)))) else
(bif Nat.blt pc 1438 then
(bif Nat.blt pc 1435 then
(bif Nat.beq pc 1434 then en (.iconst 0) 0 0 0 0 else none) else
(bif Nat.blt pc 1436 then
(bif Nat.beq pc 1435 then en (.ireturn) 0 0 0 0 else none) else
(bif Nat.beq pc 1436 then en (.iload 6) 0 0 0 0 else none))) else
(bif Nat.blt pc 1441 then
(bif Nat.beq pc 1438 then en (.ifCond .ne 15) 1453 0 0 0 else none) else
(bif Nat.blt pc 1442 then
(bif Nat.beq pc 1441 then en (.aload_n 3) 0 0 0 0 else none) else
(bif Nat.beq pc 1442 then en (.iconst 0) 0 0 0 0 else none)))))))) else
(bif Nat.blt pc 1512 then
(bif Nat.blt pc 1474 then
(bif Nat.blt pc 1458 then
(bif Nat.blt pc 1451 then
(bif Nat.blt pc 1446 then
(bif Nat.blt pc 1444 then
(bif Nat.beq pc 1443 then en (.laload) 0 0 0 0 else none) else
(bif Nat.beq pc 1444 then en (.iload 7) 0 0 0 0 else none)) else
(bif Nat.blt pc 1447 then
(bif Nat.beq pc 1446 then en (.i2l) 0 0 0 0 else none) else
(bif Nat.blt pc 1448 then
(bif Nat.beq pc 1447 then en (.lcmp) 0 0 0 0 else none) else
(bif Nat.beq pc 1448 then en (.ifCond .eq 5) 1453 0 0 0 else none)))) else
(bif Nat.blt pc 1453 then
(bif Nat.blt pc 1452 then
(bif Nat.beq pc 1451 then en (.iconst 0) 0 0 0 0 else none) else
(bif Nat.beq pc 1452 then en (.ireturn) 0 0 0 0 else none)) else
(bif Nat.blt pc 1456 then
(bif Nat.beq pc 1453 then en (.goto 1018) 2471 0 0 0 else none) else
(bif Nat.blt pc 1457 then
(bif Nat.beq pc 1456 then en (.aload_n 1) 0 0 0 0 else none) else
(bif Nat.beq pc 1457 then en (.aload_n 0) 0 0 0 0 else none))))) else
(bif Nat.blt pc 1464 then
(bif Nat.blt pc 1461 then
(bif Nat.blt pc 1460 then
(bif Nat.beq pc 1458 then en (.iload 5) 0 0 0 0 else none) else
(bif Nat.beq pc 1460 then en (.iconst 1) 0 0 0 0 else none)) else
(bif Nat.blt pc 1462 then
(bif Nat.beq pc 1461 then en (.iadd) 0 0 0 0 else none) else
(bif Nat.blt pc 1463 then
(bif Nat.beq pc 1462 then en (.iaload) 0 0 0 0 else none) else
(bif Nat.beq pc 1463 then en (.aload_n 3) 0 0 0 0 else none)))) else
(bif Nat.blt pc 1470 then
(bif Nat.blt pc 1467 then
(bif Nat.beq pc 1464 then en (.invokestatic 222) 263 5 1210 0 else none) else
(bif Nat.blt pc 1469 then
(bif Nat.beq pc 1467 then en (.istore 6) 0 0 0 0 else none) else
(bif Nat.beq pc 1469 then en (.aload_n 2) 0 0 0 0 else none))) else
(bif Nat.blt pc 1471 then
(bif Nat.beq pc 1470 then en (.aload_n 0) 0 0 0 0 else none) else
(bif Nat.blt pc 1473 then
(bif Nat.beq pc 1471 then en (.iload 5) 0 0 0 0 else none) else
(bif Nat.beq pc 1473 then en (.iconst 1) 0 0 0 0 else none)))))) else
(bif Nat.blt pc 1494 then
(bif Nat.blt pc 1482 then
(bif Nat.blt pc 1476 then
(bif Nat.blt pc 1475 then
(bif Nat.beq pc 1474 then en (.iadd) 0 0 0 0 else none) else
(bif Nat.beq pc 1475 then en (.iaload) 0 0 0 0 else none)) else
(bif Nat.blt pc 1479 then
(bif Nat.beq pc 1476 then en (.invokevirtual 224) 207 0 1801 180305 else none) else
(bif Nat.blt pc 1481 then
(bif Nat.beq pc 1479 then en (.istore 7) 0 0 0 0 else none) else
(bif Nat.beq pc 1481 then en (.aload_n 2) 0 0 0 0 else none)))) else
(bif Nat.blt pc 1490 then
(bif Nat.blt pc 1485 then
(bif Nat.beq pc 1482 then en (.invokevirtual 151) 149 0 1563 156505 else none) else
(bif Nat.blt pc 1487 then
(bif Nat.beq pc 1485 then en (.iload 6) 0 0 0 0 else none) else
(bif Nat.beq pc 1487 then en (.if_icmp .eq 5) 1492 0 0 0 else none))) else
(bif Nat.blt pc 1491 then
(bif Nat.beq pc 1490 then en (.iconst 0) 0 0 0 0 else none) else
(bif Nat.blt pc 1492 then
(bif Nat.beq pc 1491 then en (.ireturn) 0 0 0 0 else none) else
(bif Nat.beq pc 1492 then en (.iload 6) 0 0 0 0 else none))))) else
(bif Nat.blt pc 1502 then
(bif Nat.blt pc 1498 then
(bif Nat.blt pc 1497 then
(bif Nat.beq pc 1494 then en (.ifCond .ne 15) 1509 0 0 0 else none) else
(bif Nat.beq pc 1497 then en (.aload_n 3) 0 0 0 0 else none)) else
(bif Nat.blt pc 1499 then
(bif Nat.beq pc 1498 then en (.iconst 0) 0 0 0 0 else none) else
(bif Nat.blt pc 1500 then
(bif Nat.beq pc 1499 then en (.laload) 0 0 0 0 else none) else
(bif Nat.beq pc 1500 then en (.iload 7) 0 0 0 0 else none)))) else
(bif Nat.blt pc 1507 then
(bif Nat.blt pc 1503 then
(bif Nat.beq pc 1502 then en (.i2l) 0 0 0 0 else none) else
(bif Nat.blt pc 1504 then
(bif Nat.beq pc 1503 then en (.lcmp) 0 0 0 0 else none) else
(bif Nat.beq pc 1504 then en (.ifCond .eq 5) 1509 0 0 0 else none))) else
(bif Nat.blt pc 1508 then
(bif Nat.beq pc 1507 then en (.iconst 0) 0 0 0 0 else none) else
(bif Nat.blt pc 1509 then
(bif Nat.beq pc 1508 then en (.ireturn) 0 0 0 0 else none) else
(bif Nat.beq pc 1509 then en (.goto 962) 2471 0 0 0 else none))))))) else
(bif Nat.blt pc 1547 then
(bif Nat.blt pc 1527 then
(bif Nat.blt pc 1518 then
(bif Nat.blt pc 1514 then
(bif Nat.blt pc 1513 then
(bif Nat.beq pc 1512 then en (.aload_n 1) 0 0 0 0 else none) else
(bif Nat.beq pc 1513 then en (.aload_n 0) 0 0 0 0 else none)) else
(bif Nat.blt pc 1516 then
(bif Nat.beq pc 1514 then en (.iload 5) 0 0 0 0 else none) else
(bif Nat.blt pc 1517 then
(bif Nat.beq pc 1516 then en (.iconst 1) 0 0 0 0 else none) else
(bif Nat.beq pc 1517 then en (.iadd) 0 0 0 0 else none)))) else
(bif Nat.blt pc 1523 then
(bif Nat.blt pc 1519 then
(bif Nat.beq pc 1518 then en (.iaload) 0 0 0 0 else none) else
(bif Nat.blt pc 1520 then
(bif Nat.beq pc 1519 then en (.aload_n 3) 0 0 0 0 else none) else
(bif Nat.beq pc 1520 then en (.invokestatic 225) 264 5 1217 0 else none))) else
(bif Nat.blt pc 1525 then
(bif Nat.beq pc 1523 then en (.istore 6) 0 0 0 0 else none) else
(bif Nat.blt pc 1526 then
(bif Nat.beq pc 1525 then en (.aload_n 2) 0 0 0 0 else none) else
(bif Nat.beq pc 1526 then en (.aload_n 0) 0 0 0 0 else none))))) else
(bif Nat.blt pc 1535 then
(bif Nat.blt pc 1530 then
(bif Nat.blt pc 1529 then
(bif Nat.beq pc 1527 then en (.iload 5) 0 0 0 0 else none) else
(bif Nat.beq pc 1529 then en (.iconst 1) 0 0 0 0 else none)) else
(bif Nat.blt pc 1531 then
(bif Nat.beq pc 1530 then en (.iadd) 0 0 0 0 else none) else
(bif Nat.blt pc 1532 then
(bif Nat.beq pc 1531 then en (.iaload) 0 0 0 0 else none) else
(bif Nat.beq pc 1532 then en (.invokevirtual 227) 208 0 1805 180705 else none)))) else
(bif Nat.blt pc 1541 then
(bif Nat.blt pc 1537 then
(bif Nat.beq pc 1535 then en (.istore 7) 0 0 0 0 else none) else
(bif Nat.blt pc 1538 then
(bif Nat.beq pc 1537 then en (.aload_n 2) 0 0 0 0 else none) else
(bif Nat.beq pc 1538 then en (.invokevirtual 151) 149 0 1563 156505 else none))) else
(bif Nat.blt pc 1543 then
(bif Nat.beq pc 1541 then en (.iload 6) 0 0 0 0 else none) else
(bif Nat.blt pc 1546 then
(bif Nat.beq pc 1543 then en (.if_icmp .eq 5) 1548 0 0 0 else none) else
(bif Nat.beq pc 1546 then en (.iconst 0) 0 0 0 0 else none)))))) else
(bif Nat.blt pc 1564 then
(bif Nat.blt pc 1555 then
(bif Nat.blt pc 1550 then
(bif Nat.blt pc 1548 then
(bif Nat.beq pc 1547 then en (.ireturn) 0 0 0 0 else none) else
(bif Nat.beq pc 1548 then en (.iload 6) 0 0 0 0 else none)) else
(bif Nat.blt pc 1553 then
(bif Nat.beq pc 1550 then en (.ifCond .ne 15) 1565 0 0 0 else none) else
(bif Nat.blt pc 1554 then
(bif Nat.beq pc 1553 then en (.aload_n 3) 0 0 0 0 else none) else
(bif Nat.beq pc 1554 then en (.iconst 0) 0 0 0 0 else none)))) else
(bif Nat.blt pc 1559 then
(bif Nat.blt pc 1556 then
(bif Nat.beq pc 1555 then en (.laload) 0 0 0 0 else none) else
(bif Nat.blt pc 1558 then
(bif Nat.beq pc 1556 then en (.iload 7) 0 0 0 0 else none) else
(bif Nat.beq pc 1558 then en (.i2l) 0 0 0 0 else none))) else
(bif Nat.blt pc 1560 then
(bif Nat.beq pc 1559 then en (.lcmp) 0 0 0 0 else none) else
(bif Nat.blt pc 1563 then
(bif Nat.beq pc 1560 then en (.ifCond .eq 5) 1565 0 0 0 else none) else
(bif Nat.beq pc 1563 then en (.iconst 0) 0 0 0 0 else none))))) else
(bif Nat.blt pc 1572 then
(bif Nat.blt pc 1568 then
(bif Nat.blt pc 1565 then
(bif Nat.beq pc 1564 then en (.ireturn) 0 0 0 0 else none) else
(bif Nat.beq pc 1565 then en (.goto 906) 2471 0 0 0 else none)) else
(bif Nat.blt pc 1569 then
(bif Nat.beq pc 1568 then en (.aload_n 1) 0 0 0 0 else none) else
(bif Nat.blt pc 1570 then
(bif Nat.beq pc 1569 then en (.aload_n 0) 0 0 0 0 else none) else
(bif Nat.beq pc 1570 then en (.iload 5) 0 0 0 0 else none)))) else
(bif Nat.blt pc 1575 then
(bif Nat.blt pc 1573 then
(bif Nat.beq pc 1572 then en (.iconst 1) 0 0 0 0 else none) else
(bif Nat.blt pc 1574 then
(bif Nat.beq pc 1573 then en (.iadd) 0 0 0 0 else none) else
(bif Nat.beq pc 1574 then en (.iaload) 0 0 0 0 else none))) else
(bif Nat.blt pc 1576 then
(bif Nat.beq pc 1575 then en (.aload_n 3) 0 0 0 0 else none) else
(bif Nat.blt pc 1579 then
(bif Nat.beq pc 1576 then en (.invokestatic 228) 265 5 1224 0 else none) else
(bif Nat.beq pc 1579 then en (.istore 6) 0 0 0 0 else none))))))))) else
(bif Nat.blt pc 1722 then
(bif Nat.blt pc 1649 then
(bif Nat.blt pc 1615 then
(bif Nat.blt pc 1597 then
(bif Nat.blt pc 1587 then
(bif Nat.blt pc 1583 then
(bif Nat.blt pc 1582 then
(bif Nat.beq pc 1581 then en (.aload_n 2) 0 0 0 0 else none) else
(bif Nat.beq pc 1582 then en (.aload_n 0) 0 0 0 0 else none)) else
(bif Nat.blt pc 1585 then
(bif Nat.beq pc 1583 then en (.iload 5) 0 0 0 0 else none) else
(bif Nat.blt pc 1586 then
(bif Nat.beq pc 1585 then en (.iconst 1) 0 0 0 0 else none) else
(bif Nat.beq pc 1586 then en (.iadd) 0 0 0 0 else none)))) else
(bif Nat.blt pc 1591 then
(bif Nat.blt pc 1588 then
(bif Nat.beq pc 1587 then en (.iaload) 0 0 0 0 else none) else
(bif Nat.beq pc 1588 then en (.invokevirtual 230) 209 0 1809 181105 else none)) else
(bif Nat.blt pc 1593 then
(bif Nat.beq pc 1591 then en (.istore 7) 0 0 0 0 else none) else
(bif Nat.blt pc 1594 then
(bif Nat.beq pc 1593 then en (.aload_n 2) 0 0 0 0 else none) else
(bif Nat.beq pc 1594 then en (.invokevirtual 151) 149 0 1563 156505 else none))))) else
(bif Nat.blt pc 1606 then
(bif Nat.blt pc 1602 then
(bif Nat.blt pc 1599 then
(bif Nat.beq pc 1597 then en (.iload 6) 0 0 0 0 else none) else
(bif Nat.beq pc 1599 then en (.if_icmp .eq 5) 1604 0 0 0 else none)) else
(bif Nat.blt pc 1603 then
(bif Nat.beq pc 1602 then en (.iconst 0) 0 0 0 0 else none) else
(bif Nat.blt pc 1604 then
(bif Nat.beq pc 1603 then en (.ireturn) 0 0 0 0 else none) else
(bif Nat.beq pc 1604 then en (.iload 6) 0 0 0 0 else none)))) else
(bif Nat.blt pc 1611 then
(bif Nat.blt pc 1609 then
(bif Nat.beq pc 1606 then en (.ifCond .ne 15) 1621 0 0 0 else none) else
(bif Nat.blt pc 1610 then
(bif Nat.beq pc 1609 then en (.aload_n 3) 0 0 0 0 else none) else
(bif Nat.beq pc 1610 then en (.iconst 0) 0 0 0 0 else none))) else
(bif Nat.blt pc 1612 then
(bif Nat.beq pc 1611 then en (.laload) 0 0 0 0 else none) else
(bif Nat.blt pc 1614 then
(bif Nat.beq pc 1612 then en (.iload 7) 0 0 0 0 else none) else
(bif Nat.beq pc 1614 then en (.i2l) 0 0 0 0 else none)))))) else
(bif Nat.blt pc 1631 then
(bif Nat.blt pc 1624 then
(bif Nat.blt pc 1619 then
(bif Nat.blt pc 1616 then
(bif Nat.beq pc 1615 then en (.lcmp) 0 0 0 0 else none) else
(bif Nat.beq pc 1616 then en (.ifCond .eq 5) 1621 0 0 0 else none)) else
(bif Nat.blt pc 1620 then
(bif Nat.beq pc 1619 then en (.iconst 0) 0 0 0 0 else none) else
(bif Nat.blt pc 1621 then
(bif Nat.beq pc 1620 then en (.ireturn) 0 0 0 0 else none) else
(bif Nat.beq pc 1621 then en (.goto 850) 2471 0 0 0 else none)))) else
(bif Nat.blt pc 1628 then
(bif Nat.blt pc 1625 then
(bif Nat.beq pc 1624 then en (.aload_n 1) 0 0 0 0 else none) else
(bif Nat.blt pc 1626 then
(bif Nat.beq pc 1625 then en (.aload_n 0) 0 0 0 0 else none) else
(bif Nat.beq pc 1626 then en (.iload 5) 0 0 0 0 else none))) else
(bif Nat.blt pc 1629 then
(bif Nat.beq pc 1628 then en (.iconst 1) 0 0 0 0 else none) else
(bif Nat.blt pc 1630 then
(bif Nat.beq pc 1629 then en (.iadd) 0 0 0 0 else none) else
(bif Nat.beq pc 1630 then en (.iaload) 0 0 0 0 else none))))) else
(bif Nat.blt pc 1639 then
(bif Nat.blt pc 1635 then
(bif Nat.blt pc 1632 then
(bif Nat.beq pc 1631 then en (.aload_n 3) 0 0 0 0 else none) else
(bif Nat.beq pc 1632 then en (.invokestatic 231) 266 5 1231 0 else none)) else
(bif Nat.blt pc 1637 then
(bif Nat.beq pc 1635 then en (.istore 6) 0 0 0 0 else none) else
(bif Nat.blt pc 1638 then
(bif Nat.beq pc 1637 then en (.aload_n 2) 0 0 0 0 else none) else
(bif Nat.beq pc 1638 then en (.aload_n 0) 0 0 0 0 else none)))) else
(bif Nat.blt pc 1643 then
(bif Nat.blt pc 1641 then
(bif Nat.beq pc 1639 then en (.iload 5) 0 0 0 0 else none) else
(bif Nat.blt pc 1642 then
(bif Nat.beq pc 1641 then en (.iconst 1) 0 0 0 0 else none) else
(bif Nat.beq pc 1642 then en (.iadd) 0 0 0 0 else none))) else
(bif Nat.blt pc 1644 then
(bif Nat.beq pc 1643 then en (.iaload) 0 0 0 0 else none) else
(bif Nat.blt pc 1647 then
(bif Nat.beq pc 1644 then en (.invokevirtual 233) 210 0 1813 181505 else none) else
(bif Nat.beq pc 1647 then en (.istore 7) 0 0 0 0 else none))))))) else
(bif Nat.blt pc 1685 then
(bif Nat.blt pc 1668 then
(bif Nat.blt pc 1659 then
(bif Nat.blt pc 1653 then
(bif Nat.blt pc 1650 then
(bif Nat.beq pc 1649 then en (.aload_n 2) 0 0 0 0 else none) else
(bif Nat.beq pc 1650 then en (.invokevirtual 151) 149 0 1563 156505 else none)) else
(bif Nat.blt pc 1655 then
(bif Nat.beq pc 1653 then en (.iload 6) 0 0 0 0 else none) else
(bif Nat.blt pc 1658 then
(bif Nat.beq pc 1655 then en (.if_icmp .eq 5) 1660 0 0 0 else none) else
(bif Nat.beq pc 1658 then en (.iconst 0) 0 0 0 0 else none)))) else
(bif Nat.blt pc 1665 then
(bif Nat.blt pc 1660 then
(bif Nat.beq pc 1659 then en (.ireturn) 0 0 0 0 else none) else
(bif Nat.blt pc 1662 then
(bif Nat.beq pc 1660 then en (.iload 6) 0 0 0 0 else none) else
(bif Nat.beq pc 1662 then en (.ifCond .ne 15) 1677 0 0 0 else none))) else
(bif Nat.blt pc 1666 then
(bif Nat.beq pc 1665 then en (.aload_n 3) 0 0 0 0 else none) else
(bif Nat.blt pc 1667 then
(bif Nat.beq pc 1666 then en (.iconst 0) 0 0 0 0 else none) else
(bif Nat.beq pc 1667 then en (.laload) 0 0 0 0 else none))))) else
(bif Nat.blt pc 1676 then
(bif Nat.blt pc 1671 then
(bif Nat.blt pc 1670 then
(bif Nat.beq pc 1668 then en (.iload 7) 0 0 0 0 else none) else
(bif Nat.beq pc 1670 then en (.i2l) 0 0 0 0 else none)) else
(bif Nat.blt pc 1672 then
(bif Nat.beq pc 1671 then en (.lcmp) 0 0 0 0 else none) else
(bif Nat.blt pc 1675 then
(bif Nat.beq pc 1672 then en (.ifCond .eq 5) 1677 0 0 0 else none) else
(bif Nat.beq pc 1675 then en (.iconst 0) 0 0 0 0 else none)))) else
(bif Nat.blt pc 1681 then
(bif Nat.blt pc 1677 then
(bif Nat.beq pc 1676 then en (.ireturn) 0 0 0 0 else none) else
(bif Nat.blt pc 1680 then
(bif Nat.beq pc 1677 then en (.goto 794) 2471 0 0 0 else none) else
(bif Nat.beq pc 1680 then en (.aload_n 1) 0 0 0 0 else none))) else
(bif Nat.blt pc 1682 then
(bif Nat.beq pc 1681 then en (.aload_n 0) 0 0 0 0 else none) else
(bif Nat.blt pc 1684 then
(bif Nat.beq pc 1682 then en (.iload 5) 0 0 0 0 else none) else
(bif Nat.beq pc 1684 then en (.iconst 1) 0 0 0 0 else none)))))) else
(bif Nat.blt pc 1700 then
(bif Nat.blt pc 1693 then
(bif Nat.blt pc 1687 then
(bif Nat.blt pc 1686 then
(bif Nat.beq pc 1685 then en (.iadd) 0 0 0 0 else none) else
(bif Nat.beq pc 1686 then en (.iaload) 0 0 0 0 else none)) else
(bif Nat.blt pc 1688 then
(bif Nat.beq pc 1687 then en (.aload_n 3) 0 0 0 0 else none) else
(bif Nat.blt pc 1691 then
(bif Nat.beq pc 1688 then en (.invokestatic 234) 267 5 1242 0 else none) else
(bif Nat.beq pc 1691 then en (.istore 6) 0 0 0 0 else none)))) else
(bif Nat.blt pc 1697 then
(bif Nat.blt pc 1694 then
(bif Nat.beq pc 1693 then en (.aload_n 2) 0 0 0 0 else none) else
(bif Nat.blt pc 1695 then
(bif Nat.beq pc 1694 then en (.aload_n 0) 0 0 0 0 else none) else
(bif Nat.beq pc 1695 then en (.iload 5) 0 0 0 0 else none))) else
(bif Nat.blt pc 1698 then
(bif Nat.beq pc 1697 then en (.iconst 1) 0 0 0 0 else none) else
(bif Nat.blt pc 1699 then
(bif Nat.beq pc 1698 then en (.iadd) 0 0 0 0 else none) else
(bif Nat.beq pc 1699 then en (.iaload) 0 0 0 0 else none))))) else
(bif Nat.blt pc 1711 then
(bif Nat.blt pc 1705 then
(bif Nat.blt pc 1703 then
(bif Nat.beq pc 1700 then en (.invokevirtual 236) 213 0 1817 181905 else none) else
(bif Nat.beq pc 1703 then en (.istore 7) 0 0 0 0 else none)) else
(bif Nat.blt pc 1706 then
(bif Nat.beq pc 1705 then en (.aload_n 2) 0 0 0 0 else none) else
(bif Nat.blt pc 1709 then
(bif Nat.beq pc 1706 then en (.invokevirtual 151) 149 0 1563 156505 else none) else
(bif Nat.beq pc 1709 then en (.iload 6) 0 0 0 0 else none)))) else
(bif Nat.blt pc 1716 then
(bif Nat.blt pc 1714 then
(bif Nat.beq pc 1711 then en (.if_icmp .eq 5) 1716 0 0 0 else none) else
(bif Nat.blt pc 1715 then
(bif Nat.beq pc 1714 then en (.iconst 0) 0 0 0 0 else none) else
(bif Nat.beq pc 1715 then en (.ireturn) 0 0 0 0 else none))) else
(bif Nat.blt pc 1718 then
(bif Nat.beq pc 1716 then en (.iload 6) 0 0 0 0 else none) else
(bif Nat.blt pc 1721 then
(bif Nat.beq pc 1718 then en (.ifCond .ne 15) 1733 0 0 0 else none) else
(bif Nat.beq pc 1721 then en (.aload_n 3) 0 0 0 0 else none)))))))) else
(bif Nat.blt pc 1793 then
(bif Nat.blt pc 1756 then
(bif Nat.blt pc 1740 then
(bif Nat.blt pc 1728 then
(bif Nat.blt pc 1724 then
(bif Nat.blt pc 1723 then
(bif Nat.beq pc 1722 then en (.iconst 0) 0 0 0 0 else none) else
(bif Nat.beq pc 1723 then en (.laload) 0 0 0 0 else none)) else
(bif Nat.blt pc 1726 then
(bif Nat.beq pc 1724 then en (.iload 7) 0 0 0 0 else none) else
(bif Nat.blt pc 1727 then
(bif Nat.beq pc 1726 then en (.i2l) 0 0 0 0 else none) else
(bif Nat.beq pc 1727 then en (.lcmp) 0 0 0 0 else none)))) else
(bif Nat.blt pc 1733 then
(bif Nat.blt pc 1731 then
(bif Nat.beq pc 1728 then en (.ifCond .eq 5) 1733 0 0 0 else none) else
(bif Nat.blt pc 1732 then
(bif Nat.beq pc 1731 then en (.iconst 0) 0 0 0 0 else none) else
(bif Nat.beq pc 1732 then en (.ireturn) 0 0 0 0 else none))) else
(bif Nat.blt pc 1736 then
(bif Nat.beq pc 1733 then en (.goto 738) 2471 0 0 0 else none) else
(bif Nat.blt pc 1737 then
(bif Nat.beq pc 1736 then en (.aload_n 1) 0 0 0 0 else none) else
(bif Nat.beq pc 1737 then en (.invokevirtual 237) 122 0 381 38300 else none))))) else
(bif Nat.blt pc 1749 then
(bif Nat.blt pc 1744 then
(bif Nat.blt pc 1741 then
(bif Nat.beq pc 1740 then en (.aload_n 2) 0 0 0 0 else none) else
(bif Nat.beq pc 1741 then en (.invokevirtual 240) 214 0 1829 183105 else none)) else
(bif Nat.blt pc 1747 then
(bif Nat.beq pc 1744 then en (.if_icmp .eq 727) 2471 0 0 0 else none) else
(bif Nat.blt pc 1748 then
(bif Nat.beq pc 1747 then en (.iconst 0) 0 0 0 0 else none) else
(bif Nat.beq pc 1748 then en (.ireturn) 0 0 0 0 else none)))) else
(bif Nat.blt pc 1753 then
(bif Nat.blt pc 1750 then
(bif Nat.beq pc 1749 then en (.aload_n 1) 0 0 0 0 else none) else
(bif Nat.blt pc 1751 then
(bif Nat.beq pc 1750 then en (.aload_n 0) 0 0 0 0 else none) else
(bif Nat.beq pc 1751 then en (.iload 5) 0 0 0 0 else none))) else
(bif Nat.blt pc 1754 then
(bif Nat.beq pc 1753 then en (.iconst 1) 0 0 0 0 else none) else
(bif Nat.blt pc 1755 then
(bif Nat.beq pc 1754 then en (.iadd) 0 0 0 0 else none) else
(bif Nat.beq pc 1755 then en (.iaload) 0 0 0 0 else none)))))) else
(bif Nat.blt pc 1774 then
(bif Nat.blt pc 1764 then
(bif Nat.blt pc 1760 then
(bif Nat.blt pc 1757 then
(bif Nat.beq pc 1756 then en (.aload_n 3) 0 0 0 0 else none) else
(bif Nat.beq pc 1757 then en (.invokestatic 241) 268 5 1250 0 else none)) else
(bif Nat.blt pc 1762 then
(bif Nat.beq pc 1760 then en (.istore 6) 0 0 0 0 else none) else
(bif Nat.blt pc 1763 then
(bif Nat.beq pc 1762 then en (.aload_n 2) 0 0 0 0 else none) else
(bif Nat.beq pc 1763 then en (.aload_n 0) 0 0 0 0 else none)))) else
(bif Nat.blt pc 1768 then
(bif Nat.blt pc 1766 then
(bif Nat.beq pc 1764 then en (.iload 5) 0 0 0 0 else none) else
(bif Nat.blt pc 1767 then
(bif Nat.beq pc 1766 then en (.iconst 1) 0 0 0 0 else none) else
(bif Nat.beq pc 1767 then en (.iadd) 0 0 0 0 else none))) else
(bif Nat.blt pc 1769 then
(bif Nat.beq pc 1768 then en (.iaload) 0 0 0 0 else none) else
(bif Nat.blt pc 1772 then
(bif Nat.beq pc 1769 then en (.invokevirtual 243) 215 0 1833 183505 else none) else
(bif Nat.beq pc 1772 then en (.istore 7) 0 0 0 0 else none))))) else
(bif Nat.blt pc 1784 then
(bif Nat.blt pc 1778 then
(bif Nat.blt pc 1775 then
(bif Nat.beq pc 1774 then en (.aload_n 2) 0 0 0 0 else none) else
(bif Nat.beq pc 1775 then en (.invokevirtual 151) 149 0 1563 156505 else none)) else
(bif Nat.blt pc 1780 then
(bif Nat.beq pc 1778 then en (.iload 6) 0 0 0 0 else none) else
(bif Nat.blt pc 1783 then
(bif Nat.beq pc 1780 then en (.if_icmp .eq 5) 1785 0 0 0 else none) else
(bif Nat.beq pc 1783 then en (.iconst 0) 0 0 0 0 else none)))) else
(bif Nat.blt pc 1790 then
(bif Nat.blt pc 1785 then
(bif Nat.beq pc 1784 then en (.ireturn) 0 0 0 0 else none) else
(bif Nat.blt pc 1787 then
(bif Nat.beq pc 1785 then en (.iload 6) 0 0 0 0 else none) else
(bif Nat.beq pc 1787 then en (.ifCond .ne 15) 1802 0 0 0 else none))) else
(bif Nat.blt pc 1791 then
(bif Nat.beq pc 1790 then en (.aload_n 3) 0 0 0 0 else none) else
(bif Nat.blt pc 1792 then
(bif Nat.beq pc 1791 then en (.iconst 0) 0 0 0 0 else none) else
(bif Nat.beq pc 1792 then en (.laload) 0 0 0 0 else none))))))) else
(bif Nat.blt pc 1832 then
(bif Nat.blt pc 1813 then
(bif Nat.blt pc 1801 then
(bif Nat.blt pc 1796 then
(bif Nat.blt pc 1795 then
(bif Nat.beq pc 1793 then en (.iload 7) 0 0 0 0 else none) else
(bif Nat.beq pc 1795 then en (.i2l) 0 0 0 0 else none)) else
(bif Nat.blt pc 1797 then
(bif Nat.beq pc 1796 then en (.lcmp) 0 0 0 0 else none) else
(bif Nat.blt pc 1800 then
(bif Nat.beq pc 1797 then en (.ifCond .eq 5) 1802 0 0 0 else none) else
(bif Nat.beq pc 1800 then en (.iconst 0) 0 0 0 0 else none)))) else
(bif Nat.blt pc 1806 then
(bif Nat.blt pc 1802 then
(bif Nat.beq pc 1801 then en (.ireturn) 0 0 0 0 else none) else
(bif Nat.blt pc 1805 then
(bif Nat.beq pc 1802 then en (.goto 669) 2471 0 0 0 else none) else
(bif Nat.beq pc 1805 then en (.aload_n 1) 0 0 0 0 else none))) else
(bif Nat.blt pc 1809 then
(bif Nat.beq pc 1806 then en (.invokevirtual 244) 126 0 475 47700 else none) else
(bif Nat.blt pc 1810 then
(bif Nat.beq pc 1809 then en (.aload_n 2) 0 0 0 0 else none) else
(bif Nat.beq pc 1810 then en (.invokevirtual 247) 216 0 1837 183905 else none))))) else
(bif Nat.blt pc 1822 then
(bif Nat.blt pc 1817 then
(bif Nat.blt pc 1816 then
(bif Nat.beq pc 1813 then en (.if_icmp .eq 658) 2471 0 0 0 else none) else
(bif Nat.beq pc 1816 then en (.iconst 0) 0 0 0 0 else none)) else
(bif Nat.blt pc 1818 then
(bif Nat.beq pc 1817 then en (.ireturn) 0 0 0 0 else none) else
(bif Nat.blt pc 1819 then
(bif Nat.beq pc 1818 then en (.aload_n 1) 0 0 0 0 else none) else
(bif Nat.beq pc 1819 then en (.invokevirtual 248) 127 0 479 48100 else none)))) else
(bif Nat.blt pc 1829 then
(bif Nat.blt pc 1823 then
(bif Nat.beq pc 1822 then en (.aload_n 2) 0 0 0 0 else none) else
(bif Nat.blt pc 1826 then
(bif Nat.beq pc 1823 then en (.invokevirtual 251) 217 0 1841 184305 else none) else
(bif Nat.beq pc 1826 then en (.if_icmp .eq 645) 2471 0 0 0 else none))) else
(bif Nat.blt pc 1830 then
(bif Nat.beq pc 1829 then en (.iconst 0) 0 0 0 0 else none) else
(bif Nat.blt pc 1831 then
(bif Nat.beq pc 1830 then en (.ireturn) 0 0 0 0 else none) else
(bif Nat.beq pc 1831 then en (.aload_n 1) 0 0 0 0 else none)))))) else
(bif Nat.blt pc 1854 then
(bif Nat.blt pc 1842 then
(bif Nat.blt pc 1836 then
(bif Nat.blt pc 1833 then
(bif Nat.beq pc 1832 then en (.aload_n 3) 0 0 0 0 else none) else
(bif Nat.beq pc 1833 then en (.invokestatic 252) 269 5 1267 0 else none)) else
(bif Nat.blt pc 1838 then
(bif Nat.beq pc 1836 then en (.istore 6) 0 0 0 0 else none) else
(bif Nat.blt pc 1839 then
(bif Nat.beq pc 1838 then en (.aload_n 2) 0 0 0 0 else none) else
(bif Nat.beq pc 1839 then en (.invokevirtual 255) 218 0 1845 184705 else none)))) else
(bif Nat.blt pc 1848 then
(bif Nat.blt pc 1844 then
(bif Nat.beq pc 1842 then en (.istore 7) 0 0 0 0 else none) else
(bif Nat.blt pc 1845 then
(bif Nat.beq pc 1844 then en (.aload_n 2) 0 0 0 0 else none) else
(bif Nat.beq pc 1845 then en (.invokevirtual 151) 149 0 1563 156505 else none))) else
(bif Nat.blt pc 1850 then
(bif Nat.beq pc 1848 then en (.iload 6) 0 0 0 0 else none) else
(bif Nat.blt pc 1853 then
(bif Nat.beq pc 1850 then en (.if_icmp .eq 5) 1855 0 0 0 else none) else
(bif Nat.beq pc 1853 then en (.iconst 0) 0 0 0 0 else none))))) else
(bif Nat.blt pc 1862 then
(bif Nat.blt pc 1857 then
(bif Nat.blt pc 1855 then
(bif Nat.beq pc 1854 then en (.ireturn) 0 0 0 0 else none) else
(bif Nat.beq pc 1855 then en (.iload 6) 0 0 0 0 else none)) else
(bif Nat.blt pc 1860 then
(bif Nat.beq pc 1857 then en (.ifCond .ne 15) 1872 0 0 0 else none) else
(bif Nat.blt pc 1861 then
(bif Nat.beq pc 1860 then en (.aload_n 3) 0 0 0 0 else none) else
(bif Nat.beq pc 1861 then en (.iconst 0) 0 0 0 0 else none)))) else
(bif Nat.blt pc 1866 then
(bif Nat.blt pc 1863 then
(bif Nat.beq pc 1862 then en (.laload) 0 0 0 0 else none) else
(bif Nat.blt pc 1865 then
(bif Nat.beq pc 1863 then en (.iload 7) 0 0 0 0 else none) else
(bif Nat.beq pc 1865 then en (.i2l) 0 0 0 0 else none))) else
(bif Nat.blt pc 1867 then
(bif Nat.beq pc 1866 then en (.lcmp) 0 0 0 0 else none) else
(bif Nat.blt pc 1870 then
(bif Nat.beq pc 1867 then en (.ifCond .eq 5) 1872 0 0 0 else none) else
(bif Nat.beq pc 1870 then en (.iconst 0) 0 0 0 0 else none)))))))))) else
(bif Nat.blt pc 2175 then
(bif Nat.blt pc 2030 then
(bif Nat.blt pc 1948 then
(bif Nat.blt pc 1911 then
(bif Nat.blt pc 1889 then
(bif Nat.blt pc 1880 then
(bif Nat.blt pc 1875 then
(bif Nat.blt pc 1872 then
(bif Nat.beq pc 1871 then en (.ireturn) 0 0 0 0 else none) else
(bif Nat.beq pc 1872 then en (.goto 599) 2471 0 0 0 else none)) else
(bif Nat.blt pc 1876 then
(bif Nat.beq pc 1875 then en (.aload_n 1) 0 0 0 0 else none) else
(bif Nat.blt pc 1879 then
(bif Nat.beq pc 1876 then en (.invokevirtual 256) 129 0 483 48500 else none) else
(bif Nat.beq pc 1879 then en (.aload_n 2) 0 0 0 0 else none)))) else
(bif Nat.blt pc 1884 then
(bif Nat.blt pc 1883 then
(bif Nat.beq pc 1880 then en (.invokevirtual 260) 219 0 1849 185105 else none) else
(bif Nat.beq pc 1883 then en (.lcmp) 0 0 0 0 else none)) else
(bif Nat.blt pc 1887 then
(bif Nat.beq pc 1884 then en (.ifCond .eq 587) 2471 0 0 0 else none) else
(bif Nat.blt pc 1888 then
(bif Nat.beq pc 1887 then en (.iconst 0) 0 0 0 0 else none) else
(bif Nat.beq pc 1888 then en (.ireturn) 0 0 0 0 else none))))) else
(bif Nat.blt pc 1897 then
(bif Nat.blt pc 1891 then
(bif Nat.blt pc 1890 then
(bif Nat.beq pc 1889 then en (.aload_n 1) 0 0 0 0 else none) else
(bif Nat.beq pc 1890 then en (.aload_n 3) 0 0 0 0 else none)) else
(bif Nat.blt pc 1894 then
(bif Nat.beq pc 1891 then en (.invokestatic 261) 270 5 1279 0 else none) else
(bif Nat.blt pc 1896 then
(bif Nat.beq pc 1894 then en (.istore 6) 0 0 0 0 else none) else
(bif Nat.beq pc 1896 then en (.aload_n 2) 0 0 0 0 else none)))) else
(bif Nat.blt pc 1903 then
(bif Nat.blt pc 1900 then
(bif Nat.beq pc 1897 then en (.invokevirtual 263) 220 0 1853 185505 else none) else
(bif Nat.blt pc 1902 then
(bif Nat.beq pc 1900 then en (.istore 7) 0 0 0 0 else none) else
(bif Nat.beq pc 1902 then en (.aload_n 2) 0 0 0 0 else none))) else
(bif Nat.blt pc 1906 then
(bif Nat.beq pc 1903 then en (.invokevirtual 151) 149 0 1563 156505 else none) else
(bif Nat.blt pc 1908 then
(bif Nat.beq pc 1906 then en (.iload 6) 0 0 0 0 else none) else
(bif Nat.beq pc 1908 then en (.if_icmp .eq 5) 1913 0 0 0 else none)))))) else
(bif Nat.blt pc 1928 then
(bif Nat.blt pc 1919 then
(bif Nat.blt pc 1913 then
(bif Nat.blt pc 1912 then
(bif Nat.beq pc 1911 then en (.iconst 0) 0 0 0 0 else none) else
(bif Nat.beq pc 1912 then en (.ireturn) 0 0 0 0 else none)) else
(bif Nat.blt pc 1915 then
(bif Nat.beq pc 1913 then en (.iload 6) 0 0 0 0 else none) else
(bif Nat.blt pc 1918 then
(bif Nat.beq pc 1915 then en (.ifCond .ne 15) 1930 0 0 0 else none) else
(bif Nat.beq pc 1918 then en (.aload_n 3) 0 0 0 0 else none)))) else
(bif Nat.blt pc 1923 then
(bif Nat.blt pc 1920 then
(bif Nat.beq pc 1919 then en (.iconst 0) 0 0 0 0 else none) else
(bif Nat.blt pc 1921 then
(bif Nat.beq pc 1920 then en (.laload) 0 0 0 0 else none) else
(bif Nat.beq pc 1921 then en (.iload 7) 0 0 0 0 else none))) else
(bif Nat.blt pc 1924 then
(bif Nat.beq pc 1923 then en (.i2l) 0 0 0 0 else none) else
(bif Nat.blt pc 1925 then
(bif Nat.beq pc 1924 then en (.lcmp) 0 0 0 0 else none) else
(bif Nat.beq pc 1925 then en (.ifCond .eq 5) 1930 0 0 0 else none))))) else
(bif Nat.blt pc 1936 then
(bif Nat.blt pc 1930 then
(bif Nat.blt pc 1929 then
(bif Nat.beq pc 1928 then en (.iconst 0) 0 0 0 0 else none) else
(bif Nat.beq pc 1929 then en (.ireturn) 0 0 0 0 else none)) else
(bif Nat.blt pc 1933 then
(bif Nat.beq pc 1930 then en (.goto 541) 2471 0 0 0 else none) else
(bif Nat.blt pc 1934 then
(bif Nat.beq pc 1933 then en (.aload_n 1) 0 0 0 0 else none) else
(bif Nat.beq pc 1934 then en (.aload 4) 0 0 0 0 else none)))) else
(bif Nat.blt pc 1942 then
(bif Nat.blt pc 1939 then
(bif Nat.beq pc 1936 then en (.invokestatic 264) 271 5 1286 0 else none) else
(bif Nat.blt pc 1941 then
(bif Nat.beq pc 1939 then en (.istore 6) 0 0 0 0 else none) else
(bif Nat.beq pc 1941 then en (.aload_n 2) 0 0 0 0 else none))) else
(bif Nat.blt pc 1945 then
(bif Nat.beq pc 1942 then en (.invokevirtual 267) 221 0 1857 185905 else none) else
(bif Nat.blt pc 1947 then
(bif Nat.beq pc 1945 then en (.dstore 7) 0 0 0 0 else none) else
(bif Nat.beq pc 1947 then en (.aload_n 2) 0 0 0 0 else none))))))) else
(bif Nat.blt pc 1987 then
(bif Nat.blt pc 1969 then
(bif Nat.blt pc 1958 then
(bif Nat.blt pc 1953 then
(bif Nat.blt pc 1951 then
(bif Nat.beq pc 1948 then en (.invokevirtual 151) 149 0 1563 156505 else none) else
(bif Nat.beq pc 1951 then en (.iload 6) 0 0 0 0 else none)) else
(bif Nat.blt pc 1956 then
(bif Nat.beq pc 1953 then en (.if_icmp .eq 5) 1958 0 0 0 else none) else
(bif Nat.blt pc 1957 then
(bif Nat.beq pc 1956 then en (.iconst 0) 0 0 0 0 else none) else
(bif Nat.beq pc 1957 then en (.ireturn) 0 0 0 0 else none)))) else
(bif Nat.blt pc 1965 then
(bif Nat.blt pc 1960 then
(bif Nat.beq pc 1958 then en (.iload 6) 0 0 0 0 else none) else
(bif Nat.blt pc 1963 then
(bif Nat.beq pc 1960 then en (.ifCond .ne 35) 1995 0 0 0 else none) else
(bif Nat.beq pc 1963 then en (.aload 4) 0 0 0 0 else none))) else
(bif Nat.blt pc 1966 then
(bif Nat.beq pc 1965 then en (.iconst 0) 0 0 0 0 else none) else
(bif Nat.blt pc 1967 then
(bif Nat.beq pc 1966 then en (.daload) 0 0 0 0 else none) else
(bif Nat.beq pc 1967 then en (.dload 7) 0 0 0 0 else none))))) else
(bif Nat.blt pc 1977 then
(bif Nat.blt pc 1973 then
(bif Nat.blt pc 1970 then
(bif Nat.beq pc 1969 then en (.dcmp .l) 0 0 0 0 else none) else
(bif Nat.beq pc 1970 then en (.ifCond .eq 25) 1995 0 0 0 else none)) else
(bif Nat.blt pc 1975 then
(bif Nat.beq pc 1973 then en (.aload 4) 0 0 0 0 else none) else
(bif Nat.blt pc 1976 then
(bif Nat.beq pc 1975 then en (.iconst 0) 0 0 0 0 else none) else
(bif Nat.beq pc 1976 then en (.daload) 0 0 0 0 else none)))) else
(bif Nat.blt pc 1981 then
(bif Nat.blt pc 1979 then
(bif Nat.beq pc 1977 then en (.aload 4) 0 0 0 0 else none) else
(bif Nat.blt pc 1980 then
(bif Nat.beq pc 1979 then en (.iconst 0) 0 0 0 0 else none) else
(bif Nat.beq pc 1980 then en (.daload) 0 0 0 0 else none))) else
(bif Nat.blt pc 1982 then
(bif Nat.beq pc 1981 then en (.dcmp .l) 0 0 0 0 else none) else
(bif Nat.blt pc 1985 then
(bif Nat.beq pc 1982 then en (.ifCond .eq 11) 1993 0 0 0 else none) else
(bif Nat.beq pc 1985 then en (.dload 7) 0 0 0 0 else none)))))) else
(bif Nat.blt pc 2007 then
(bif Nat.blt pc 1995 then
(bif Nat.blt pc 1990 then
(bif Nat.blt pc 1989 then
(bif Nat.beq pc 1987 then en (.dload 7) 0 0 0 0 else none) else
(bif Nat.beq pc 1989 then en (.dcmp .l) 0 0 0 0 else none)) else
(bif Nat.blt pc 1993 then
(bif Nat.beq pc 1990 then en (.ifCond .ne 5) 1995 0 0 0 else none) else
(bif Nat.blt pc 1994 then
(bif Nat.beq pc 1993 then en (.iconst 0) 0 0 0 0 else none) else
(bif Nat.beq pc 1994 then en (.ireturn) 0 0 0 0 else none)))) else
(bif Nat.blt pc 2001 then
(bif Nat.blt pc 1998 then
(bif Nat.beq pc 1995 then en (.goto 476) 2471 0 0 0 else none) else
(bif Nat.blt pc 1999 then
(bif Nat.beq pc 1998 then en (.aload_n 1) 0 0 0 0 else none) else
(bif Nat.beq pc 1999 then en (.aload 4) 0 0 0 0 else none))) else
(bif Nat.blt pc 2004 then
(bif Nat.beq pc 2001 then en (.invokestatic 268) 272 5 1309 0 else none) else
(bif Nat.blt pc 2006 then
(bif Nat.beq pc 2004 then en (.istore 6) 0 0 0 0 else none) else
(bif Nat.beq pc 2006 then en (.aload_n 2) 0 0 0 0 else none))))) else
(bif Nat.blt pc 2018 then
(bif Nat.blt pc 2012 then
(bif Nat.blt pc 2010 then
(bif Nat.beq pc 2007 then en (.invokevirtual 270) 222 0 1861 186305 else none) else
(bif Nat.beq pc 2010 then en (.fstore 7) 0 0 0 0 else none)) else
(bif Nat.blt pc 2013 then
(bif Nat.beq pc 2012 then en (.aload_n 2) 0 0 0 0 else none) else
(bif Nat.blt pc 2016 then
(bif Nat.beq pc 2013 then en (.invokevirtual 151) 149 0 1563 156505 else none) else
(bif Nat.beq pc 2016 then en (.iload 6) 0 0 0 0 else none)))) else
(bif Nat.blt pc 2023 then
(bif Nat.blt pc 2021 then
(bif Nat.beq pc 2018 then en (.if_icmp .eq 5) 2023 0 0 0 else none) else
(bif Nat.blt pc 2022 then
(bif Nat.beq pc 2021 then en (.iconst 0) 0 0 0 0 else none) else
(bif Nat.beq pc 2022 then en (.ireturn) 0 0 0 0 else none))) else
(bif Nat.blt pc 2025 then
(bif Nat.beq pc 2023 then en (.iload 6) 0 0 0 0 else none) else
(bif Nat.blt pc 2028 then
(bif Nat.beq pc 2025 then en (.ifCond .ne 36) 2061 0 0 0 else none) else
(bif Nat.beq pc 2028 then en (.aload 4) 0 0 0 0 else none)))))))) else
(bif Nat.blt pc 2098 then
(bif Nat.blt pc 2065 then
(bif Nat.blt pc 2046 then
(bif Nat.blt pc 2036 then
(bif Nat.blt pc 2032 then
(bif Nat.blt pc 2031 then
(bif Nat.beq pc 2030 then en (.iconst 0) 0 0 0 0 else none) else
(bif Nat.beq pc 2031 then en (.daload) 0 0 0 0 else none)) else
(bif Nat.blt pc 2034 then
(bif Nat.beq pc 2032 then en (.fload 7) 0 0 0 0 else none) else
(bif Nat.blt pc 2035 then
(bif Nat.beq pc 2034 then en (.f2d) 0 0 0 0 else none) else
(bif Nat.beq pc 2035 then en (.dcmp .l) 0 0 0 0 else none)))) else
(bif Nat.blt pc 2042 then
(bif Nat.blt pc 2039 then
(bif Nat.beq pc 2036 then en (.ifCond .eq 25) 2061 0 0 0 else none) else
(bif Nat.blt pc 2041 then
(bif Nat.beq pc 2039 then en (.aload 4) 0 0 0 0 else none) else
(bif Nat.beq pc 2041 then en (.iconst 0) 0 0 0 0 else none))) else
(bif Nat.blt pc 2043 then
(bif Nat.beq pc 2042 then en (.daload) 0 0 0 0 else none) else
(bif Nat.blt pc 2045 then
(bif Nat.beq pc 2043 then en (.aload 4) 0 0 0 0 else none) else
(bif Nat.beq pc 2045 then en (.iconst 0) 0 0 0 0 else none))))) else
(bif Nat.blt pc 2055 then
(bif Nat.blt pc 2048 then
(bif Nat.blt pc 2047 then
(bif Nat.beq pc 2046 then en (.daload) 0 0 0 0 else none) else
(bif Nat.beq pc 2047 then en (.dcmp .l) 0 0 0 0 else none)) else
(bif Nat.blt pc 2051 then
(bif Nat.beq pc 2048 then en (.ifCond .eq 11) 2059 0 0 0 else none) else
(bif Nat.blt pc 2053 then
(bif Nat.beq pc 2051 then en (.fload 7) 0 0 0 0 else none) else
(bif Nat.beq pc 2053 then en (.fload 7) 0 0 0 0 else none)))) else
(bif Nat.blt pc 2060 then
(bif Nat.blt pc 2056 then
(bif Nat.beq pc 2055 then en (.fcmp .l) 0 0 0 0 else none) else
(bif Nat.blt pc 2059 then
(bif Nat.beq pc 2056 then en (.ifCond .ne 5) 2061 0 0 0 else none) else
(bif Nat.beq pc 2059 then en (.iconst 0) 0 0 0 0 else none))) else
(bif Nat.blt pc 2061 then
(bif Nat.beq pc 2060 then en (.ireturn) 0 0 0 0 else none) else
(bif Nat.blt pc 2064 then
(bif Nat.beq pc 2061 then en (.goto 410) 2471 0 0 0 else none) else
(bif Nat.beq pc 2064 then en (.aload_n 1) 0 0 0 0 else none)))))) else
(bif Nat.blt pc 2083 then
(bif Nat.blt pc 2076 then
(bif Nat.blt pc 2069 then
(bif Nat.blt pc 2068 then
(bif Nat.beq pc 2065 then en (.invokevirtual 271) 133 0 487 48900 else none) else
(bif Nat.beq pc 2068 then en (.aload_n 2) 0 0 0 0 else none)) else
(bif Nat.blt pc 2072 then
(bif Nat.beq pc 2069 then en (.invokevirtual 275) 223 0 1865 186705 else none) else
(bif Nat.blt pc 2075 then
(bif Nat.beq pc 2072 then en (.if_icmp .eq 399) 2471 0 0 0 else none) else
(bif Nat.beq pc 2075 then en (.iconst 0) 0 0 0 0 else none)))) else
(bif Nat.blt pc 2079 then
(bif Nat.blt pc 2077 then
(bif Nat.beq pc 2076 then en (.ireturn) 0 0 0 0 else none) else
(bif Nat.blt pc 2078 then
(bif Nat.beq pc 2077 then en (.aload_n 1) 0 0 0 0 else none) else
(bif Nat.beq pc 2078 then en (.aload_n 0) 0 0 0 0 else none))) else
(bif Nat.blt pc 2081 then
(bif Nat.beq pc 2079 then en (.iload 5) 0 0 0 0 else none) else
(bif Nat.blt pc 2082 then
(bif Nat.beq pc 2081 then en (.iconst 1) 0 0 0 0 else none) else
(bif Nat.beq pc 2082 then en (.iadd) 0 0 0 0 else none))))) else
(bif Nat.blt pc 2091 then
(bif Nat.blt pc 2085 then
(bif Nat.blt pc 2084 then
(bif Nat.beq pc 2083 then en (.iaload) 0 0 0 0 else none) else
(bif Nat.beq pc 2084 then en (.i2c) 0 0 0 0 else none)) else
(bif Nat.blt pc 2086 then
(bif Nat.beq pc 2085 then en (.aload_n 3) 0 0 0 0 else none) else
(bif Nat.blt pc 2089 then
(bif Nat.beq pc 2086 then en (.invokestatic 276) 273 5 1316 0 else none) else
(bif Nat.beq pc 2089 then en (.istore 6) 0 0 0 0 else none)))) else
(bif Nat.blt pc 2095 then
(bif Nat.blt pc 2092 then
(bif Nat.beq pc 2091 then en (.aload_n 2) 0 0 0 0 else none) else
(bif Nat.blt pc 2093 then
(bif Nat.beq pc 2092 then en (.aload_n 0) 0 0 0 0 else none) else
(bif Nat.beq pc 2093 then en (.iload 5) 0 0 0 0 else none))) else
(bif Nat.blt pc 2096 then
(bif Nat.beq pc 2095 then en (.iconst 1) 0 0 0 0 else none) else
(bif Nat.blt pc 2097 then
(bif Nat.beq pc 2096 then en (.iadd) 0 0 0 0 else none) else
(bif Nat.beq pc 2097 then en (.iaload) 0 0 0 0 else none))))))) else
(bif Nat.blt pc 2136 then
(bif Nat.blt pc 2120 then
(bif Nat.blt pc 2108 then
(bif Nat.blt pc 2102 then
(bif Nat.blt pc 2099 then
(bif Nat.beq pc 2098 then en (.i2c) 0 0 0 0 else none) else
(bif Nat.beq pc 2099 then en (.invokevirtual 279) 224 0 1869 187105 else none)) else
(bif Nat.blt pc 2104 then
(bif Nat.beq pc 2102 then en (.istore 7) 0 0 0 0 else none) else
(bif Nat.blt pc 2105 then
(bif Nat.beq pc 2104 then en (.aload_n 2) 0 0 0 0 else none) else
(bif Nat.beq pc 2105 then en (.invokevirtual 151) 149 0 1563 156505 else none)))) else
(bif Nat.blt pc 2114 then
(bif Nat.blt pc 2110 then
(bif Nat.beq pc 2108 then en (.iload 6) 0 0 0 0 else none) else
(bif Nat.blt pc 2113 then
(bif Nat.beq pc 2110 then en (.if_icmp .eq 5) 2115 0 0 0 else none) else
(bif Nat.beq pc 2113 then en (.iconst 0) 0 0 0 0 else none))) else
(bif Nat.blt pc 2115 then
(bif Nat.beq pc 2114 then en (.ireturn) 0 0 0 0 else none) else
(bif Nat.blt pc 2117 then
(bif Nat.beq pc 2115 then en (.iload 6) 0 0 0 0 else none) else
(bif Nat.beq pc 2117 then en (.ifCond .ne 15) 2132 0 0 0 else none))))) else
(bif Nat.blt pc 2126 then
(bif Nat.blt pc 2122 then
(bif Nat.blt pc 2121 then
(bif Nat.beq pc 2120 then en (.aload_n 3) 0 0 0 0 else none) else
(bif Nat.beq pc 2121 then en (.iconst 0) 0 0 0 0 else none)) else
(bif Nat.blt pc 2123 then
(bif Nat.beq pc 2122 then en (.laload) 0 0 0 0 else none) else
(bif Nat.blt pc 2125 then
(bif Nat.beq pc 2123 then en (.iload 7) 0 0 0 0 else none) else
(bif Nat.beq pc 2125 then en (.i2l) 0 0 0 0 else none)))) else
(bif Nat.blt pc 2131 then
(bif Nat.blt pc 2127 then
(bif Nat.beq pc 2126 then en (.lcmp) 0 0 0 0 else none) else
(bif Nat.blt pc 2130 then
(bif Nat.beq pc 2127 then en (.ifCond .eq 5) 2132 0 0 0 else none) else
(bif Nat.beq pc 2130 then en (.iconst 0) 0 0 0 0 else none))) else
(bif Nat.blt pc 2132 then
(bif Nat.beq pc 2131 then en (.ireturn) 0 0 0 0 else none) else
(bif Nat.blt pc 2135 then
(bif Nat.beq pc 2132 then en (.goto 339) 2471 0 0 0 else none) else
(bif Nat.beq pc 2135 then en (.aload_n 1) 0 0 0 0 else none)))))) else
(bif Nat.blt pc 2158 then
(bif Nat.blt pc 2146 then
(bif Nat.blt pc 2140 then
(bif Nat.blt pc 2137 then
(bif Nat.beq pc 2136 then en (.aload_n 3) 0 0 0 0 else none) else
(bif Nat.beq pc 2137 then en (.invokestatic 280) 274 5 1333 0 else none)) else
(bif Nat.blt pc 2142 then
(bif Nat.beq pc 2140 then en (.istore 6) 0 0 0 0 else none) else
(bif Nat.blt pc 2143 then
(bif Nat.beq pc 2142 then en (.aload_n 2) 0 0 0 0 else none) else
(bif Nat.beq pc 2143 then en (.invokevirtual 282) 233 0 1873 187505 else none)))) else
(bif Nat.blt pc 2152 then
(bif Nat.blt pc 2148 then
(bif Nat.beq pc 2146 then en (.istore 7) 0 0 0 0 else none) else
(bif Nat.blt pc 2149 then
(bif Nat.beq pc 2148 then en (.aload_n 2) 0 0 0 0 else none) else
(bif Nat.beq pc 2149 then en (.invokevirtual 151) 149 0 1563 156505 else none))) else
(bif Nat.blt pc 2154 then
(bif Nat.beq pc 2152 then en (.iload 6) 0 0 0 0 else none) else
(bif Nat.blt pc 2157 then
(bif Nat.beq pc 2154 then en (.if_icmp .eq 5) 2159 0 0 0 else none) else
(bif Nat.beq pc 2157 then en (.iconst 0) 0 0 0 0 else none))))) else
(bif Nat.blt pc 2166 then
(bif Nat.blt pc 2161 then
(bif Nat.blt pc 2159 then
(bif Nat.beq pc 2158 then en (.ireturn) 0 0 0 0 else none) else
(bif Nat.beq pc 2159 then en (.iload 6) 0 0 0 0 else none)) else
(bif Nat.blt pc 2164 then
(bif Nat.beq pc 2161 then en (.ifCond .ne 15) 2176 0 0 0 else none) else
(bif Nat.blt pc 2165 then
(bif Nat.beq pc 2164 then en (.aload_n 3) 0 0 0 0 else none) else
(bif Nat.beq pc 2165 then en (.iconst 0) 0 0 0 0 else none)))) else
(bif Nat.blt pc 2170 then
(bif Nat.blt pc 2167 then
(bif Nat.beq pc 2166 then en (.laload) 0 0 0 0 else none) else
(bif Nat.blt pc 2169 then
(bif Nat.beq pc 2167 then en (.iload 7) 0 0 0 0 else none) else
(bif Nat.beq pc 2169 then en (.i2l) 0 0 0 0 else none))) else
(bif Nat.blt pc 2171 then
(bif Nat.beq pc 2170 then en (.lcmp) 0 0 0 0 else none) else
(bif Nat.blt pc 2174 then
(bif Nat.beq pc 2171 then en (.ifCond .eq 5) 2176 0 0 0 else none) else
(bif Nat.beq pc 2174 then en (.iconst 0) 0 0 0 0 else none))))))))) else
(bif Nat.blt pc 2324 then
(bif Nat.blt pc 2253 then
(bif Nat.blt pc 2213 then
(bif Nat.blt pc 2193 then
(bif Nat.blt pc 2184 then
(bif Nat.blt pc 2179 then
(bif Nat.blt pc 2176 then
(bif Nat.beq pc 2175 then en (.ireturn) 0 0 0 0 else none) else
(bif Nat.beq pc 2176 then en (.goto 295) 2471 0 0 0 else none)) else
(bif Nat.blt pc 2180 then
(bif Nat.beq pc 2179 then en (.aload_n 1) 0 0 0 0 else none) else
(bif Nat.blt pc 2181 then
(bif Nat.beq pc 2180 then en (.aload_n 3) 0 0 0 0 else none) else
(bif Nat.beq pc 2181 then en (.invokestatic 283) 275 5 1426 0 else none)))) else
(bif Nat.blt pc 2187 then
(bif Nat.blt pc 2186 then
(bif Nat.beq pc 2184 then en (.istore 6) 0 0 0 0 else none) else
(bif Nat.beq pc 2186 then en (.aload_n 2) 0 0 0 0 else none)) else
(bif Nat.blt pc 2190 then
(bif Nat.beq pc 2187 then en (.invokevirtual 285) 234 0 1911 191305 else none) else
(bif Nat.blt pc 2192 then
(bif Nat.beq pc 2190 then en (.istore 7) 0 0 0 0 else none) else
(bif Nat.beq pc 2192 then en (.aload_n 2) 0 0 0 0 else none))))) else
(bif Nat.blt pc 2203 then
(bif Nat.blt pc 2198 then
(bif Nat.blt pc 2196 then
(bif Nat.beq pc 2193 then en (.invokevirtual 151) 149 0 1563 156505 else none) else
(bif Nat.beq pc 2196 then en (.iload 6) 0 0 0 0 else none)) else
(bif Nat.blt pc 2201 then
(bif Nat.beq pc 2198 then en (.if_icmp .eq 5) 2203 0 0 0 else none) else
(bif Nat.blt pc 2202 then
(bif Nat.beq pc 2201 then en (.iconst 0) 0 0 0 0 else none) else
(bif Nat.beq pc 2202 then en (.ireturn) 0 0 0 0 else none)))) else
(bif Nat.blt pc 2209 then
(bif Nat.blt pc 2205 then
(bif Nat.beq pc 2203 then en (.iload 6) 0 0 0 0 else none) else
(bif Nat.blt pc 2208 then
(bif Nat.beq pc 2205 then en (.ifCond .ne 15) 2220 0 0 0 else none) else
(bif Nat.beq pc 2208 then en (.aload_n 3) 0 0 0 0 else none))) else
(bif Nat.blt pc 2210 then
(bif Nat.beq pc 2209 then en (.iconst 0) 0 0 0 0 else none) else
(bif Nat.blt pc 2211 then
(bif Nat.beq pc 2210 then en (.laload) 0 0 0 0 else none) else
(bif Nat.beq pc 2211 then en (.iload 7) 0 0 0 0 else none)))))) else
(bif Nat.blt pc 2231 then
(bif Nat.blt pc 2220 then
(bif Nat.blt pc 2215 then
(bif Nat.blt pc 2214 then
(bif Nat.beq pc 2213 then en (.i2l) 0 0 0 0 else none) else
(bif Nat.beq pc 2214 then en (.lcmp) 0 0 0 0 else none)) else
(bif Nat.blt pc 2218 then
(bif Nat.beq pc 2215 then en (.ifCond .eq 5) 2220 0 0 0 else none) else
(bif Nat.blt pc 2219 then
(bif Nat.beq pc 2218 then en (.iconst 0) 0 0 0 0 else none) else
(bif Nat.beq pc 2219 then en (.ireturn) 0 0 0 0 else none)))) else
(bif Nat.blt pc 2225 then
(bif Nat.blt pc 2223 then
(bif Nat.beq pc 2220 then en (.goto 251) 2471 0 0 0 else none) else
(bif Nat.blt pc 2224 then
(bif Nat.beq pc 2223 then en (.aload_n 1) 0 0 0 0 else none) else
(bif Nat.beq pc 2224 then en (.aload_n 3) 0 0 0 0 else none))) else
(bif Nat.blt pc 2228 then
(bif Nat.beq pc 2225 then en (.invokestatic 286) 276 5 1434 0 else none) else
(bif Nat.blt pc 2230 then
(bif Nat.beq pc 2228 then en (.istore 6) 0 0 0 0 else none) else
(bif Nat.beq pc 2230 then en (.aload_n 2) 0 0 0 0 else none))))) else
(bif Nat.blt pc 2242 then
(bif Nat.blt pc 2236 then
(bif Nat.blt pc 2234 then
(bif Nat.beq pc 2231 then en (.invokevirtual 288) 235 0 1915 191705 else none) else
(bif Nat.beq pc 2234 then en (.istore 7) 0 0 0 0 else none)) else
(bif Nat.blt pc 2237 then
(bif Nat.beq pc 2236 then en (.aload_n 2) 0 0 0 0 else none) else
(bif Nat.blt pc 2240 then
(bif Nat.beq pc 2237 then en (.invokevirtual 151) 149 0 1563 156505 else none) else
(bif Nat.beq pc 2240 then en (.iload 6) 0 0 0 0 else none)))) else
(bif Nat.blt pc 2247 then
(bif Nat.blt pc 2245 then
(bif Nat.beq pc 2242 then en (.if_icmp .eq 5) 2247 0 0 0 else none) else
(bif Nat.blt pc 2246 then
(bif Nat.beq pc 2245 then en (.iconst 0) 0 0 0 0 else none) else
(bif Nat.beq pc 2246 then en (.ireturn) 0 0 0 0 else none))) else
(bif Nat.blt pc 2249 then
(bif Nat.beq pc 2247 then en (.iload 6) 0 0 0 0 else none) else
(bif Nat.blt pc 2252 then
(bif Nat.beq pc 2249 then en (.ifCond .ne 15) 2264 0 0 0 else none) else
(bif Nat.beq pc 2252 then en (.aload_n 3) 0 0 0 0 else none))))))) else
(bif Nat.blt pc 2287 then
(bif Nat.blt pc 2271 then
(bif Nat.blt pc 2259 then
(bif Nat.blt pc 2255 then
(bif Nat.blt pc 2254 then
(bif Nat.beq pc 2253 then en (.iconst 0) 0 0 0 0 else none) else
(bif Nat.beq pc 2254 then en (.laload) 0 0 0 0 else none)) else
(bif Nat.blt pc 2257 then
(bif Nat.beq pc 2255 then en (.iload 7) 0 0 0 0 else none) else
(bif Nat.blt pc 2258 then
(bif Nat.beq pc 2257 then en (.i2l) 0 0 0 0 else none) else
(bif Nat.beq pc 2258 then en (.lcmp) 0 0 0 0 else none)))) else
(bif Nat.blt pc 2264 then
(bif Nat.blt pc 2262 then
(bif Nat.beq pc 2259 then en (.ifCond .eq 5) 2264 0 0 0 else none) else
(bif Nat.blt pc 2263 then
(bif Nat.beq pc 2262 then en (.iconst 0) 0 0 0 0 else none) else
(bif Nat.beq pc 2263 then en (.ireturn) 0 0 0 0 else none))) else
(bif Nat.blt pc 2267 then
(bif Nat.beq pc 2264 then en (.goto 207) 2471 0 0 0 else none) else
(bif Nat.blt pc 2268 then
(bif Nat.beq pc 2267 then en (.aload_n 1) 0 0 0 0 else none) else
(bif Nat.beq pc 2268 then en (.invokevirtual 289) 140 0 536 53800 else none))))) else
(bif Nat.blt pc 2280 then
(bif Nat.blt pc 2275 then
(bif Nat.blt pc 2272 then
(bif Nat.beq pc 2271 then en (.aload_n 2) 0 0 0 0 else none) else
(bif Nat.beq pc 2272 then en (.invokevirtual 292) 238 0 1919 192105 else none)) else
(bif Nat.blt pc 2278 then
(bif Nat.beq pc 2275 then en (.if_icmp .eq 196) 2471 0 0 0 else none) else
(bif Nat.blt pc 2279 then
(bif Nat.beq pc 2278 then en (.iconst 0) 0 0 0 0 else none) else
(bif Nat.beq pc 2279 then en (.ireturn) 0 0 0 0 else none)))) else
(bif Nat.blt pc 2284 then
(bif Nat.blt pc 2281 then
(bif Nat.beq pc 2280 then en (.aload_n 1) 0 0 0 0 else none) else
(bif Nat.blt pc 2282 then
(bif Nat.beq pc 2281 then en (.aload_n 0) 0 0 0 0 else none) else
(bif Nat.beq pc 2282 then en (.iload 5) 0 0 0 0 else none))) else
(bif Nat.blt pc 2285 then
(bif Nat.beq pc 2284 then en (.iconst 1) 0 0 0 0 else none) else
(bif Nat.blt pc 2286 then
(bif Nat.beq pc 2285 then en (.iadd) 0 0 0 0 else none) else
(bif Nat.beq pc 2286 then en (.iaload) 0 0 0 0 else none)))))) else
(bif Nat.blt pc 2305 then
(bif Nat.blt pc 2295 then
(bif Nat.blt pc 2291 then
(bif Nat.blt pc 2288 then
(bif Nat.beq pc 2287 then en (.aload_n 3) 0 0 0 0 else none) else
(bif Nat.beq pc 2288 then en (.invokestatic 293) 277 5 1442 0 else none)) else
(bif Nat.blt pc 2293 then
(bif Nat.beq pc 2291 then en (.istore 6) 0 0 0 0 else none) else
(bif Nat.blt pc 2294 then
(bif Nat.beq pc 2293 then en (.aload_n 2) 0 0 0 0 else none) else
(bif Nat.beq pc 2294 then en (.aload_n 0) 0 0 0 0 else none)))) else
(bif Nat.blt pc 2299 then
(bif Nat.blt pc 2297 then
(bif Nat.beq pc 2295 then en (.iload 5) 0 0 0 0 else none) else
(bif Nat.blt pc 2298 then
(bif Nat.beq pc 2297 then en (.iconst 1) 0 0 0 0 else none) else
(bif Nat.beq pc 2298 then en (.iadd) 0 0 0 0 else none))) else
(bif Nat.blt pc 2300 then
(bif Nat.beq pc 2299 then en (.iaload) 0 0 0 0 else none) else
(bif Nat.blt pc 2303 then
(bif Nat.beq pc 2300 then en (.invokevirtual 295) 239 0 1931 193305 else none) else
(bif Nat.beq pc 2303 then en (.istore 7) 0 0 0 0 else none))))) else
(bif Nat.blt pc 2315 then
(bif Nat.blt pc 2309 then
(bif Nat.blt pc 2306 then
(bif Nat.beq pc 2305 then en (.aload_n 2) 0 0 0 0 else none) else
(bif Nat.beq pc 2306 then en (.invokevirtual 151) 149 0 1563 156505 else none)) else
(bif Nat.blt pc 2311 then
(bif Nat.beq pc 2309 then en (.iload 6) 0 0 0 0 else none) else
(bif Nat.blt pc 2314 then
(bif Nat.beq pc 2311 then en (.if_icmp .eq 5) 2316 0 0 0 else none) else
(bif Nat.beq pc 2314 then en (.iconst 0) 0 0 0 0 else none)))) else
(bif Nat.blt pc 2321 then
(bif Nat.blt pc 2316 then
(bif Nat.beq pc 2315 then en (.ireturn) 0 0 0 0 else none) else
(bif Nat.blt pc 2318 then
(bif Nat.beq pc 2316 then en (.iload 6) 0 0 0 0 else none) else
(bif Nat.beq pc 2318 then en (.ifCond .ne 15) 2333 0 0 0 else none))) else
(bif Nat.blt pc 2322 then
(bif Nat.beq pc 2321 then en (.aload_n 3) 0 0 0 0 else none) else
(bif Nat.blt pc 2323 then
(bif Nat.beq pc 2322 then en (.iconst 0) 0 0 0 0 else none) else
(bif Nat.beq pc 2323 then en (.laload) 0 0 0 0 else none)))))))) else
(bif Nat.blt pc 2394 then
(bif Nat.blt pc 2356 then
(bif Nat.blt pc 2341 then
(bif Nat.blt pc 2332 then
(bif Nat.blt pc 2327 then
(bif Nat.blt pc 2326 then
(bif Nat.beq pc 2324 then en (.iload 7) 0 0 0 0 else none) else
(bif Nat.beq pc 2326 then en (.i2l) 0 0 0 0 else none)) else
(bif Nat.blt pc 2328 then
(bif Nat.beq pc 2327 then en (.lcmp) 0 0 0 0 else none) else
(bif Nat.blt pc 2331 then
(bif Nat.beq pc 2328 then en (.ifCond .eq 5) 2333 0 0 0 else none) else
(bif Nat.beq pc 2331 then en (.iconst 0) 0 0 0 0 else none)))) else
(bif Nat.blt pc 2337 then
(bif Nat.blt pc 2333 then
(bif Nat.beq pc 2332 then en (.ireturn) 0 0 0 0 else none) else
(bif Nat.blt pc 2336 then
(bif Nat.beq pc 2333 then en (.goto 138) 2471 0 0 0 else none) else
(bif Nat.beq pc 2336 then en (.aload_n 1) 0 0 0 0 else none))) else
(bif Nat.blt pc 2338 then
(bif Nat.beq pc 2337 then en (.aload_n 0) 0 0 0 0 else none) else
(bif Nat.blt pc 2340 then
(bif Nat.beq pc 2338 then en (.iload 5) 0 0 0 0 else none) else
(bif Nat.beq pc 2340 then en (.iconst 1) 0 0 0 0 else none))))) else
(bif Nat.blt pc 2349 then
(bif Nat.blt pc 2343 then
(bif Nat.blt pc 2342 then
(bif Nat.beq pc 2341 then en (.iadd) 0 0 0 0 else none) else
(bif Nat.beq pc 2342 then en (.iaload) 0 0 0 0 else none)) else
(bif Nat.blt pc 2344 then
(bif Nat.beq pc 2343 then en (.aload_n 3) 0 0 0 0 else none) else
(bif Nat.blt pc 2347 then
(bif Nat.beq pc 2344 then en (.invokestatic 296) 278 5 1449 0 else none) else
(bif Nat.beq pc 2347 then en (.istore 6) 0 0 0 0 else none)))) else
(bif Nat.blt pc 2353 then
(bif Nat.blt pc 2350 then
(bif Nat.beq pc 2349 then en (.aload_n 2) 0 0 0 0 else none) else
(bif Nat.blt pc 2351 then
(bif Nat.beq pc 2350 then en (.aload_n 0) 0 0 0 0 else none) else
(bif Nat.beq pc 2351 then en (.iload 5) 0 0 0 0 else none))) else
(bif Nat.blt pc 2354 then
(bif Nat.beq pc 2353 then en (.iconst 1) 0 0 0 0 else none) else
(bif Nat.blt pc 2355 then
(bif Nat.beq pc 2354 then en (.iadd) 0 0 0 0 else none) else
(bif Nat.beq pc 2355 then en (.iaload) 0 0 0 0 else none)))))) else
(bif Nat.blt pc 2378 then
(bif Nat.blt pc 2367 then
(bif Nat.blt pc 2361 then
(bif Nat.blt pc 2359 then
(bif Nat.beq pc 2356 then en (.invokevirtual 298) 240 0 1935 193705 else none) else
(bif Nat.beq pc 2359 then en (.istore 7) 0 0 0 0 else none)) else
(bif Nat.blt pc 2362 then
(bif Nat.beq pc 2361 then en (.aload_n 2) 0 0 0 0 else none) else
(bif Nat.blt pc 2365 then
(bif Nat.beq pc 2362 then en (.invokevirtual 151) 149 0 1563 156505 else none) else
(bif Nat.beq pc 2365 then en (.iload 6) 0 0 0 0 else none)))) else
(bif Nat.blt pc 2372 then
(bif Nat.blt pc 2370 then
(bif Nat.beq pc 2367 then en (.if_icmp .eq 5) 2372 0 0 0 else none) else
(bif Nat.blt pc 2371 then
(bif Nat.beq pc 2370 then en (.iconst 0) 0 0 0 0 else none) else
(bif Nat.beq pc 2371 then en (.ireturn) 0 0 0 0 else none))) else
(bif Nat.blt pc 2374 then
(bif Nat.beq pc 2372 then en (.iload 6) 0 0 0 0 else none) else
(bif Nat.blt pc 2377 then
(bif Nat.beq pc 2374 then en (.ifCond .ne 15) 2389 0 0 0 else none) else
(bif Nat.beq pc 2377 then en (.aload_n 3) 0 0 0 0 else none))))) else
(bif Nat.blt pc 2384 then
(bif Nat.blt pc 2380 then
(bif Nat.blt pc 2379 then
(bif Nat.beq pc 2378 then en (.iconst 0) 0 0 0 0 else none) else
(bif Nat.beq pc 2379 then en (.laload) 0 0 0 0 else none)) else
(bif Nat.blt pc 2382 then
(bif Nat.beq pc 2380 then en (.iload 7) 0 0 0 0 else none) else
(bif Nat.blt pc 2383 then
(bif Nat.beq pc 2382 then en (.i2l) 0 0 0 0 else none) else
(bif Nat.beq pc 2383 then en (.lcmp) 0 0 0 0 else none)))) else
(bif Nat.blt pc 2389 then
(bif Nat.blt pc 2387 then
(bif Nat.beq pc 2384 then en (.ifCond .eq 5) 2389 0 0 0 else none) else
(bif Nat.blt pc 2388 then
(bif Nat.beq pc 2387 then en (.iconst 0) 0 0 0 0 else none) else
(bif Nat.beq pc 2388 then en (.ireturn) 0 0 0 0 else none))) else
(bif Nat.blt pc 2392 then
(bif Nat.beq pc 2389 then en (.goto 82) 2471 0 0 0 else none) else
(bif Nat.blt pc 2393 then
(bif Nat.beq pc 2392 then en (.aload_n 1) 0 0 0 0 else none) else
(bif Nat.beq pc 2393 then en (.aload_n 3) 0 0 0 0 else none))))))) else
(bif Nat.blt pc 2433 then
(bif Nat.blt pc 2416 then
(bif Nat.blt pc 2405 then
(bif Nat.blt pc 2399 then
(bif Nat.blt pc 2397 then
(bif Nat.beq pc 2394 then en (.invokestatic 299) 279 5 1467 0 else none) else
(bif Nat.beq pc 2397 then en (.istore 6) 0 0 0 0 else none)) else
(bif Nat.blt pc 2400 then
(bif Nat.beq pc 2399 then en (.aload_n 2) 0 0 0 0 else none) else
(bif Nat.blt pc 2403 then
(bif Nat.beq pc 2400 then en (.invokevirtual 301) 241 0 1939 194105 else none) else
(bif Nat.beq pc 2403 then en (.istore 7) 0 0 0 0 else none)))) else
(bif Nat.blt pc 2411 then
(bif Nat.blt pc 2406 then
(bif Nat.beq pc 2405 then en (.aload_n 2) 0 0 0 0 else none) else
(bif Nat.blt pc 2409 then
(bif Nat.beq pc 2406 then en (.invokevirtual 151) 149 0 1563 156505 else none) else
(bif Nat.beq pc 2409 then en (.iload 6) 0 0 0 0 else none))) else
(bif Nat.blt pc 2414 then
(bif Nat.beq pc 2411 then en (.if_icmp .eq 5) 2416 0 0 0 else none) else
(bif Nat.blt pc 2415 then
(bif Nat.beq pc 2414 then en (.iconst 0) 0 0 0 0 else none) else
(bif Nat.beq pc 2415 then en (.ireturn) 0 0 0 0 else none))))) else
(bif Nat.blt pc 2424 then
(bif Nat.blt pc 2421 then
(bif Nat.blt pc 2418 then
(bif Nat.beq pc 2416 then en (.iload 6) 0 0 0 0 else none) else
(bif Nat.beq pc 2418 then en (.ifCond .ne 15) 2433 0 0 0 else none)) else
(bif Nat.blt pc 2422 then
(bif Nat.beq pc 2421 then en (.aload_n 3) 0 0 0 0 else none) else
(bif Nat.blt pc 2423 then
(bif Nat.beq pc 2422 then en (.iconst 0) 0 0 0 0 else none) else
(bif Nat.beq pc 2423 then en (.laload) 0 0 0 0 else none)))) else
(bif Nat.blt pc 2428 then
(bif Nat.blt pc 2426 then
(bif Nat.beq pc 2424 then en (.iload 7) 0 0 0 0 else none) else
(bif Nat.blt pc 2427 then
(bif Nat.beq pc 2426 then en (.i2l) 0 0 0 0 else none) else
(bif Nat.beq pc 2427 then en (.lcmp) 0 0 0 0 else none))) else
(bif Nat.blt pc 2431 then
(bif Nat.beq pc 2428 then en (.ifCond .eq 5) 2433 0 0 0 else none) else
(bif Nat.blt pc 2432 then
(bif Nat.beq pc 2431 then en (.iconst 0) 0 0 0 0 else none) else
(bif Nat.beq pc 2432 then en (.ireturn) 0 0 0 0 else none)))))) else
(bif Nat.blt pc 2457 then
(bif Nat.blt pc 2444 then
(bif Nat.blt pc 2437 then
(bif Nat.blt pc 2436 then
(bif Nat.beq pc 2433 then en (.goto 38) 2471 0 0 0 else none) else
(bif Nat.beq pc 2436 then en (.aload_n 1) 0 0 0 0 else none)) else
(bif Nat.blt pc 2440 then
(bif Nat.beq pc 2437 then en (.invokevirtual 302) 146 0 919 92100 else none) else
(bif Nat.blt pc 2441 then
(bif Nat.beq pc 2440 then en (.aload_n 2) 0 0 0 0 else none) else
(bif Nat.beq pc 2441 then en (.invokevirtual 305) 242 0 1943 194505 else none)))) else
(bif Nat.blt pc 2451 then
(bif Nat.blt pc 2447 then
(bif Nat.beq pc 2444 then en (.goto 27) 2471 0 0 0 else none) else
(bif Nat.blt pc 2448 then
(bif Nat.beq pc 2447 then en (.aload_n 1) 0 0 0 0 else none) else
(bif Nat.beq pc 2448 then en (.invokestatic 306) 280 5 1479 0 else none))) else
(bif Nat.blt pc 2453 then
(bif Nat.beq pc 2451 then en (.istore 6) 0 0 0 0 else none) else
(bif Nat.blt pc 2454 then
(bif Nat.beq pc 2453 then en (.aload_n 2) 0 0 0 0 else none) else
(bif Nat.beq pc 2454 then en (.invokevirtual 309) 243 0 1947 194905 else none))))) else
(bif Nat.blt pc 2467 then
(bif Nat.blt pc 2461 then
(bif Nat.blt pc 2458 then
(bif Nat.beq pc 2457 then en (.aload_n 2) 0 0 0 0 else none) else
(bif Nat.beq pc 2458 then en (.invokevirtual 151) 149 0 1563 156505 else none)) else
(bif Nat.blt pc 2463 then
(bif Nat.beq pc 2461 then en (.iload 6) 0 0 0 0 else none) else
(bif Nat.blt pc 2466 then
(bif Nat.beq pc 2463 then en (.if_icmp .eq 5) 2468 0 0 0 else none) else
(bif Nat.beq pc 2466 then en (.iconst 0) 0 0 0 0 else none)))) else
(bif Nat.blt pc 2474 then
(bif Nat.blt pc 2468 then
(bif Nat.beq pc 2467 then en (.ireturn) 0 0 0 0 else none) else
(bif Nat.blt pc 2471 then
(bif Nat.beq pc 2468 then en (.goto 3) 2471 0 0 0 else none) else
(bif Nat.beq pc 2471 then en (.iinc 5 4) 0 0 0 0 else none))) else
(bif Nat.blt pc 2477 then
(bif Nat.beq pc 2474 then en (.goto (-2446)) 28 0 0 0 else none) else
(bif Nat.blt pc 2478 then
(bif Nat.beq pc 2477 then en (.iconst 1) 0 0 0 0 else none) else
(bif Nat.beq pc 2478 then en (.ireturn) 0 0 0 0 else none)))))))))))) else none
def mraw (k : Nat) : Nat → Option En := (bif Nat.blt k 141 then (bif Nat.blt k 70 then (bif Nat.blt k 35 then (bif Nat.blt k 17 then (bif Nat.blt k 8 then (bif Nat.blt k 4 then (bif Nat.blt k 2 then (bif Nat.blt k 1 then mc0 else mc1) else (bif Nat.blt k 3 then mc2 else mc3)) else (bif Nat.blt k 6 then (bif Nat.blt k 5 then mc4 else mc5) else (bif Nat.blt k 7 then mc6 else mc7))) else (bif Nat.blt k 12 then (bif Nat.blt k 10 then (bif Nat.blt k 9 then mc8 else mc9) else (bif Nat.blt k 11 then mc10 else mc11)) else (bif Nat.blt k 14 then (bif Nat.blt k 13 then mc12 else mc13) else (bif Nat.blt k 15 then mc14 else (bif Nat.blt k 16 then mc15 else mc16))))) else (bif Nat.blt k 26 then (bif Nat.blt k 21 then (bif Nat.blt k 19 then (bif Nat.blt k 18 then mc17 else mc18) else (bif Nat.blt k 20 then mc19 else mc20)) else (bif Nat.blt k 23 then (bif Nat.blt k 22 then mc21 else mc22) else (bif Nat.blt k 24 then mc23 else (bif Nat.blt k 25 then mc24 else mc25)))) else (bif Nat.blt k 30 then (bif Nat.blt k 28 then (bif Nat.blt k 27 then mc26 else mc27) else (bif Nat.blt k 29 then mc28 else mc29)) else (bif Nat.blt k 32 then (bif Nat.blt k 31 then mc30 else mc31) else (bif Nat.blt k 33 then mc32 else (bif Nat.blt k 34 then mc33 else mc34)))))) else (bif Nat.blt k 52 then (bif Nat.blt k 43 then (bif Nat.blt k 39 then (bif Nat.blt k 37 then (bif Nat.blt k 36 then mc35 else mc36) else (bif Nat.blt k 38 then mc37 else mc38)) else (bif Nat.blt k 41 then (bif Nat.blt k 40 then mc39 else mc40) else (bif Nat.blt k 42 then mc41 else mc42))) else (bif Nat.blt k 47 then (bif Nat.blt k 45 then (bif Nat.blt k 44 then mc43 else mc44) else (bif Nat.blt k 46 then mc45 else mc46)) else (bif Nat.blt k 49 then (bif Nat.blt k 48 then mc47 else mc48) else (bif Nat.blt k 50 then mc49 else (bif Nat.blt k 51 then mc50 else mc51))))) else (bif Nat.blt k 61 then (bif Nat.blt k 56 then (bif Nat.blt k 54 then (bif Nat.blt k 53 then mc52 else mc53) else (bif Nat.blt k 55 then mc54 else mc55)) else (bif Nat.blt k 58 then (bif Nat.blt k 57 then mc56 else mc57) else (bif Nat.blt k 59 then mc58 else (bif Nat.blt k 60 then mc59 else mc60)))) else (bif Nat.blt k 65 then (bif Nat.blt k 63 then (bif Nat.blt k 62 then mc61 else mc62) else (bif Nat.blt k 64 then mc63 else mc64)) else (bif Nat.blt k 67 then (bif Nat.blt k 66 then mc65 else mc66) else (bif Nat.blt k 68 then mc67 else (bif Nat.blt k 69 then mc68 else mc69))))))) else (bif Nat.blt k 105 then (bif Nat.blt k 87 then (bif Nat.blt k 78 then (bif Nat.blt k 74 then (bif Nat.blt k 72 then (bif Nat.blt k 71 then mc70 else mc71) else (bif Nat.blt k 73 then mc72 else mc73)) else (bif Nat.blt k 76 then (bif Nat.blt k 75 then mc74 else mc75) else (bif Nat.blt k 77 then mc76 else mc77))) else (bif Nat.blt k 82 then (bif Nat.blt k 80 then (bif Nat.blt k 79 then mc78 else mc79) else (bif Nat.blt k 81 then mc80 else mc81)) else (bif Nat.blt k 84 then (bif Nat.blt k 83 then mc82 else mc83) else (bif Nat.blt k 85 then mc84 else (bif Nat.blt k 86 then mc85 else mc86))))) else (bif Nat.blt k 96 then (bif Nat.blt k 91 then (bif Nat.blt k 89 then (bif Nat.blt k 88 then mc87 else mc88) else (bif Nat.blt k 90 then mc89 else mc90)) else (bif Nat.blt k 93 then (bif Nat.blt k 92 then mc91 else mc92) else (bif Nat.blt k 94 then mc93 else (bif Nat.blt k 95 then mc94 else mc95)))) else (bif Nat.blt k 100 then (bif Nat.blt k 98 then (bif Nat.blt k 97 then mc96 else mc97) else (bif Nat.blt k 99 then mc98 else mc99)) else (bif Nat.blt k 102 then (bif Nat.blt k 101 then mc100 else mc101) else (bif Nat.blt k 103 then mc102 else (bif Nat.blt k 104 then mc103 else mc104)))))) else (bif Nat.blt k 123 then (bif Nat.blt k 114 then (bif Nat.blt k 109 then (bif Nat.blt k 107 then (bif Nat.blt k 106 then mc105 else mc106) else (bif Nat.blt k 108 then mc107 else mc108)) else (bif Nat.blt k 111 then (bif Nat.blt k 110 then mc109 else mc110) else (bif Nat.blt k 112 then mc111 else (bif Nat.blt k 113 then mc112 else mc113)))) else (bif Nat.blt k 118 then (bif Nat.blt k 116 then (bif Nat.blt k 115 then mc114 else mc115) else (bif Nat.blt k 117 then mc116 else mc117)) else (bif Nat.blt k 120 then (bif Nat.blt k 119 then mc118 else mc119) else (bif Nat.blt k 121 then mc120 else (bif Nat.blt k 122 then mc121 else mc122))))) else (bif Nat.blt k 132 then (bif Nat.blt k 127 then (bif Nat.blt k 125 then (bif Nat.blt k 124 then mc123 else mc124) else (bif Nat.blt k 126 then mc125 else mc126)) else (bif Nat.blt k 129 then (bif Nat.blt k 128 then mc127 else mc128) else (bif Nat.blt k 130 then mc129 else (bif Nat.blt k 131 then mc130 else mc131)))) else (bif Nat.blt k 136 then (bif Nat.blt k 134 then (bif Nat.blt k 133 then mc132 else mc133) else (bif Nat.blt k 135 then mc134 else mc135)) else (bif Nat.blt k 138 then (bif Nat.blt k 137 then mc136 else mc137) else (bif Nat.blt k 139 then mc138 else (bif Nat.blt k 140 then mc139 else mc140)))))))) else (bif Nat.blt k 211 then (bif Nat.blt k 176 then (bif Nat.blt k 158 then (bif Nat.blt k 149 then (bif Nat.blt k 145 then (bif Nat.blt k 143 then (bif Nat.blt k 142 then mc141 else mc142) else (bif Nat.blt k 144 then mc143 else mc144)) else (bif Nat.blt k 147 then (bif Nat.blt k 146 then mc145 else mc146) else (bif Nat.blt k 148 then mc147 else mc148))) else (bif Nat.blt k 153 then (bif Nat.blt k 151 then (bif Nat.blt k 150 then mc149 else mc150) else (bif Nat.blt k 152 then mc151 else mc152)) else (bif Nat.blt k 155 then (bif Nat.blt k 154 then mc153 else mc154) else (bif Nat.blt k 156 then mc155 else (bif Nat.blt k 157 then mc156 else mc157))))) else (bif Nat.blt k 167 then (bif Nat.blt k 162 then (bif Nat.blt k 160 then (bif Nat.blt k 159 then mc158 else mc159) else (bif Nat.blt k 161 then mc160 else mc161)) else (bif Nat.blt k 164 then (bif Nat.blt k 163 then mc162 else mc163) else (bif Nat.blt k 165 then mc164 else (bif Nat.blt k 166 then mc165 else mc166)))) else (bif Nat.blt k 171 then (bif Nat.blt k 169 then (bif Nat.blt k 168 then mc167 else mc168) else (bif Nat.blt k 170 then mc169 else mc170)) else (bif Nat.blt k 173 then (bif Nat.blt k 172 then mc171 else mc172) else (bif Nat.blt k 174 then mc173 else (bif Nat.blt k 175 then mc174 else mc175)))))) else (bif Nat.blt k 193 then (bif Nat.blt k 184 then (bif Nat.blt k 180 then (bif Nat.blt k 178 then (bif Nat.blt k 177 then mc176 else mc177) else (bif Nat.blt k 179 then mc178 else mc179)) else (bif Nat.blt k 182 then (bif Nat.blt k 181 then mc180 else mc181) else (bif Nat.blt k 183 then mc182 else mc183))) else (bif Nat.blt k 188 then (bif Nat.blt k 186 then (bif Nat.blt k 185 then mc184 else mc185) else (bif Nat.blt k 187 then mc186 else mc187)) else (bif Nat.blt k 190 then (bif Nat.blt k 189 then mc188 else mc189) else (bif Nat.blt k 191 then mc190 else (bif Nat.blt k 192 then mc191 else mc192))))) else (bif Nat.blt k 202 then (bif Nat.blt k 197 then (bif Nat.blt k 195 then (bif Nat.blt k 194 then mc193 else mc194) else (bif Nat.blt k 196 then mc195 else mc196)) else (bif Nat.blt k 199 then (bif Nat.blt k 198 then mc197 else mc198) else (bif Nat.blt k 200 then mc199 else (bif Nat.blt k 201 then mc200 else mc201)))) else (bif Nat.blt k 206 then (bif Nat.blt k 204 then (bif Nat.blt k 203 then mc202 else mc203) else (bif Nat.blt k 205 then mc204 else mc205)) else (bif Nat.blt k 208 then (bif Nat.blt k 207 then mc206 else mc207) else (bif Nat.blt k 209 then mc208 else (bif Nat.blt k 210 then mc209 else mc210))))))) else (bif Nat.blt k 246 then (bif Nat.blt k 228 then (bif Nat.blt k 219 then (bif Nat.blt k 215 then (bif Nat.blt k 213 then (bif Nat.blt k 212 then mc211 else mc212) else (bif Nat.blt k 214 then mc213 else mc214)) else (bif Nat.blt k 217 then (bif Nat.blt k 216 then mc215 else mc216) else (bif Nat.blt k 218 then mc217 else mc218))) else (bif Nat.blt k 223 then (bif Nat.blt k 221 then (bif Nat.blt k 220 then mc219 else mc220) else (bif Nat.blt k 222 then mc221 else mc222)) else (bif Nat.blt k 225 then (bif Nat.blt k 224 then mc223 else mc224) else (bif Nat.blt k 226 then mc225 else (bif Nat.blt k 227 then mc226 else mc227))))) else (bif Nat.blt k 237 then (bif Nat.blt k 232 then (bif Nat.blt k 230 then (bif Nat.blt k 229 then mc228 else mc229) else (bif Nat.blt k 231 then mc230 else mc231)) else (bif Nat.blt k 234 then (bif Nat.blt k 233 then mc232 else mc233) else (bif Nat.blt k 235 then mc234 else (bif Nat.blt k 236 then mc235 else mc236)))) else (bif Nat.blt k 241 then (bif Nat.blt k 239 then (bif Nat.blt k 238 then mc237 else mc238) else (bif Nat.blt k 240 then mc239 else mc240)) else (bif Nat.blt k 243 then (bif Nat.blt k 242 then mc241 else mc242) else (bif Nat.blt k 244 then mc243 else (bif Nat.blt k 245 then mc244 else mc245)))))) else (bif Nat.blt k 264 then (bif Nat.blt k 255 then (bif Nat.blt k 250 then (bif Nat.blt k 248 then (bif Nat.blt k 247 then mc246 else mc247) else (bif Nat.blt k 249 then mc248 else mc249)) else (bif Nat.blt k 252 then (bif Nat.blt k 251 then mc250 else mc251) else (bif Nat.blt k 253 then mc252 else (bif Nat.blt k 254 then mc253 else mc254)))) else (bif Nat.blt k 259 then (bif Nat.blt k 257 then (bif Nat.blt k 256 then mc255 else mc256) else (bif Nat.blt k 258 then mc257 else mc258)) else (bif Nat.blt k 261 then (bif Nat.blt k 260 then mc259 else mc260) else (bif Nat.blt k 262 then mc261 else (bif Nat.blt k 263 then mc262 else mc263))))) else (bif Nat.blt k 273 then (bif Nat.blt k 268 then (bif Nat.blt k 266 then (bif Nat.blt k 265 then mc264 else mc265) else (bif Nat.blt k 267 then mc266 else mc267)) else (bif Nat.blt k 270 then (bif Nat.blt k 269 then mc268 else mc269) else (bif Nat.blt k 271 then mc270 else (bif Nat.blt k 272 then mc271 else mc272)))) else (bif Nat.blt k 277 then (bif Nat.blt k 275 then (bif Nat.blt k 274 then mc273 else mc274) else (bif Nat.blt k 276 then mc275 else mc276)) else (bif Nat.blt k 279 then (bif Nat.blt k 278 then mc277 else mc278) else (bif Nat.blt k 280 then mc279 else (bif Nat.blt k 281 then mc280 else mc281)))))))))
def mtop (k : Nat) : Nat := (bif Nat.blt k 141 then (bif Nat.blt k 70 then (bif Nat.blt k 35 then (bif Nat.blt k 17 then (bif Nat.blt k 8 then (bif Nat.blt k 4 then (bif Nat.blt k 2 then (bif Nat.blt k 1 then 39 else 39) else (bif Nat.blt k 3 then 59 else 82)) else (bif Nat.blt k 6 then (bif Nat.blt k 5 then 48 else 77) else (bif Nat.blt k 7 then 55 else 19))) else (bif Nat.blt k 12 then (bif Nat.blt k 10 then (bif Nat.blt k 9 then 5 else 5) else (bif Nat.blt k 11 then 121 else 47)) else (bif Nat.blt k 14 then (bif Nat.blt k 13 then 20 else 11) else (bif Nat.blt k 15 then 25 else (bif Nat.blt k 16 then 15 else 19))))) else (bif Nat.blt k 26 then (bif Nat.blt k 21 then (bif Nat.blt k 19 then (bif Nat.blt k 18 then 10 else 7) else (bif Nat.blt k 20 then 8 else 8)) else (bif Nat.blt k 23 then (bif Nat.blt k 22 then 6 else 6) else (bif Nat.blt k 24 then 5 else (bif Nat.blt k 25 then 15 else 13)))) else (bif Nat.blt k 30 then (bif Nat.blt k 28 then (bif Nat.blt k 27 then 33 else 18) else (bif Nat.blt k 29 then 27 else 41)) else (bif Nat.blt k 32 then (bif Nat.blt k 31 then 14 else 10) else (bif Nat.blt k 33 then 31 else (bif Nat.blt k 34 then 35 else 65)))))) else (bif Nat.blt k 52 then (bif Nat.blt k 43 then (bif Nat.blt k 39 then (bif Nat.blt k 37 then (bif Nat.blt k 36 then 147 else 97) else (bif Nat.blt k 38 then 83 else 50)) else (bif Nat.blt k 41 then (bif Nat.blt k 40 then 186 else 88) else (bif Nat.blt k 42 then 36 else 43))) else (bif Nat.blt k 47 then (bif Nat.blt k 45 then (bif Nat.blt k 44 then 66 else 23) else (bif Nat.blt k 46 then 51 else 95)) else (bif Nat.blt k 49 then (bif Nat.blt k 48 then 76 else 64) else (bif Nat.blt k 50 then 90 else (bif Nat.blt k 51 then 84 else 68))))) else (bif Nat.blt k 61 then (bif Nat.blt k 56 then (bif Nat.blt k 54 then (bif Nat.blt k 53 then 34 else 31) else (bif Nat.blt k 55 then 69 else 18)) else (bif Nat.blt k 58 then (bif Nat.blt k 57 then 20 else 16) else (bif Nat.blt k 59 then 51 else (bif Nat.blt k 60 then 54 else 121)))) else (bif Nat.blt k 65 then (bif Nat.blt k 63 then (bif Nat.blt k 62 then 46 else 35) else (bif Nat.blt k 64 then 27 else 55)) else (bif Nat.blt k 67 then (bif Nat.blt k 66 then 28 else 55) else (bif Nat.blt k 68 then 51 else (bif Nat.blt k 69 then 27 else 15))))))) else (bif Nat.blt k 105 then (bif Nat.blt k 87 then (bif Nat.blt k 78 then (bif Nat.blt k 74 then (bif Nat.blt k 72 then (bif Nat.blt k 71 then 32 else 6) else (bif Nat.blt k 73 then 6 else 76)) else (bif Nat.blt k 76 then (bif Nat.blt k 75 then 13 else 78) else (bif Nat.blt k 77 then 37 else 30))) else (bif Nat.blt k 82 then (bif Nat.blt k 80 then (bif Nat.blt k 79 then 86 else 45) else (bif Nat.blt k 81 then 38 else 12)) else (bif Nat.blt k 84 then (bif Nat.blt k 83 then 16 else 24) else (bif Nat.blt k 85 then 17 else (bif Nat.blt k 86 then 18 else 23))))) else (bif Nat.blt k 96 then (bif Nat.blt k 91 then (bif Nat.blt k 89 then (bif Nat.blt k 88 then 45 else 73) else (bif Nat.blt k 90 then 97 else 81)) else (bif Nat.blt k 93 then (bif Nat.blt k 92 then 11 else 11) else (bif Nat.blt k 94 then 11 else (bif Nat.blt k 95 then 11 else 11)))) else (bif Nat.blt k 100 then (bif Nat.blt k 98 then (bif Nat.blt k 97 then 11 else 11) else (bif Nat.blt k 99 then 40 else 64)) else (bif Nat.blt k 102 then (bif Nat.blt k 101 then 8 else 15) else (bif Nat.blt k 103 then 14 else (bif Nat.blt k 104 then 55 else 15)))))) else (bif Nat.blt k 123 then (bif Nat.blt k 114 then (bif Nat.blt k 109 then (bif Nat.blt k 107 then (bif Nat.blt k 106 then 22 else 33) else (bif Nat.blt k 108 then 20 else 20)) else (bif Nat.blt k 111 then (bif Nat.blt k 110 then 22 else 22) else (bif Nat.blt k 112 then 8 else (bif Nat.blt k 113 then 17 else 20)))) else (bif Nat.blt k 118 then (bif Nat.blt k 116 then (bif Nat.blt k 115 then 9 else 31) else (bif Nat.blt k 117 then 9 else 9)) else (bif Nat.blt k 120 then (bif Nat.blt k 119 then 9 else 9) else (bif Nat.blt k 121 then 48 else (bif Nat.blt k 122 then 43 else 19))))) else (bif Nat.blt k 132 then (bif Nat.blt k 127 then (bif Nat.blt k 125 then (bif Nat.blt k 124 then 60 else 25) else (bif Nat.blt k 126 then 28 else 8)) else (bif Nat.blt k 129 then (bif Nat.blt k 128 then 8 else 12) else (bif Nat.blt k 130 then 8 else (bif Nat.blt k 131 then 12 else 39)))) else (bif Nat.blt k 136 then (bif Nat.blt k 134 then (bif Nat.blt k 133 then 39 else 50) else (bif Nat.blt k 135 then 22 else 30)) else (bif Nat.blt k 138 then (bif Nat.blt k 137 then 138 else 24) else (bif Nat.blt k 139 then 24 else (bif Nat.blt k 140 then 37 else 51)))))))) else (bif Nat.blt k 211 then (bif Nat.blt k 176 then (bif Nat.blt k 158 then (bif Nat.blt k 149 then (bif Nat.blt k 145 then (bif Nat.blt k 143 then (bif Nat.blt k 142 then 121 else 35) else (bif Nat.blt k 144 then 95 else 56)) else (bif Nat.blt k 147 then (bif Nat.blt k 146 then 43 else 17) else (bif Nat.blt k 148 then 38 else 386))) else (bif Nat.blt k 153 then (bif Nat.blt k 151 then (bif Nat.blt k 150 then 5 else 7) else (bif Nat.blt k 152 then 19 else 32)) else (bif Nat.blt k 155 then (bif Nat.blt k 154 then 104 else 8) else (bif Nat.blt k 156 then 16 else (bif Nat.blt k 157 then 16 else 35))))) else (bif Nat.blt k 167 then (bif Nat.blt k 162 then (bif Nat.blt k 160 then (bif Nat.blt k 159 then 31 else 26) else (bif Nat.blt k 161 then 52 else 60)) else (bif Nat.blt k 164 then (bif Nat.blt k 163 then 85 else 16) else (bif Nat.blt k 165 then 40 else (bif Nat.blt k 166 then 50 else 65)))) else (bif Nat.blt k 171 then (bif Nat.blt k 169 then (bif Nat.blt k 168 then 107 else 15) else (bif Nat.blt k 170 then 69 else 15)) else (bif Nat.blt k 173 then (bif Nat.blt k 172 then 150 else 16) else (bif Nat.blt k 174 then 37 else (bif Nat.blt k 175 then 57 else 15)))))) else (bif Nat.blt k 193 then (bif Nat.blt k 184 then (bif Nat.blt k 180 then (bif Nat.blt k 178 then (bif Nat.blt k 177 then 15 else 50) else (bif Nat.blt k 179 then 14 else 40)) else (bif Nat.blt k 182 then (bif Nat.blt k 181 then 66 else 105) else (bif Nat.blt k 183 then 98 else 97))) else (bif Nat.blt k 188 then (bif Nat.blt k 186 then (bif Nat.blt k 185 then 135 else 99) else (bif Nat.blt k 187 then 95 else 51)) else (bif Nat.blt k 190 then (bif Nat.blt k 189 then 14 else 12) else (bif Nat.blt k 191 then 6 else (bif Nat.blt k 192 then 31 else 27))))) else (bif Nat.blt k 202 then (bif Nat.blt k 197 then (bif Nat.blt k 195 then (bif Nat.blt k 194 then 27 else 31) else (bif Nat.blt k 196 then 36 else 50)) else (bif Nat.blt k 199 then (bif Nat.blt k 198 then 36 else 7) else (bif Nat.blt k 200 then 6 else (bif Nat.blt k 201 then 20 else 38)))) else (bif Nat.blt k 206 then (bif Nat.blt k 204 then (bif Nat.blt k 203 then 15 else 17) else (bif Nat.blt k 205 then 47 else 8)) else (bif Nat.blt k 208 then (bif Nat.blt k 207 then 8 else 9) else (bif Nat.blt k 209 then 8 else (bif Nat.blt k 210 then 32 else 68))))))) else (bif Nat.blt k 246 then (bif Nat.blt k 228 then (bif Nat.blt k 219 then (bif Nat.blt k 215 then (bif Nat.blt k 213 then (bif Nat.blt k 212 then 27 else 27) else (bif Nat.blt k 214 then 94 else 41)) else (bif Nat.blt k 217 then (bif Nat.blt k 216 then 142 else 6) else (bif Nat.blt k 218 then 6 else 29))) else (bif Nat.blt k 223 then (bif Nat.blt k 221 then (bif Nat.blt k 220 then 8 else 30) else (bif Nat.blt k 222 then 39 else 39)) else (bif Nat.blt k 225 then (bif Nat.blt k 224 then 7 else 45) else (bif Nat.blt k 226 then 25 else (bif Nat.blt k 227 then 46 else 75))))) else (bif Nat.blt k 237 then (bif Nat.blt k 232 then (bif Nat.blt k 230 then (bif Nat.blt k 229 then 43 else 71) else (bif Nat.blt k 231 then 79 else 119)) else (bif Nat.blt k 234 then (bif Nat.blt k 233 then 138 else 189) else (bif Nat.blt k 235 then 26 else (bif Nat.blt k 236 then 26 else 21)))) else (bif Nat.blt k 241 then (bif Nat.blt k 239 then (bif Nat.blt k 238 then 44 else 185) else (bif Nat.blt k 240 then 148 else 38)) else (bif Nat.blt k 243 then (bif Nat.blt k 242 then 67 else 37) else (bif Nat.blt k 244 then 51 else (bif Nat.blt k 245 then 23 else 27)))))) else (bif Nat.blt k 264 then (bif Nat.blt k 255 then (bif Nat.blt k 250 then (bif Nat.blt k 248 then (bif Nat.blt k 247 then 29 else 20) else (bif Nat.blt k 249 then 20 else 20)) else (bif Nat.blt k 252 then (bif Nat.blt k 251 then 17 else 17) else (bif Nat.blt k 253 then 17 else (bif Nat.blt k 254 then 17 else 17)))) else (bif Nat.blt k 259 then (bif Nat.blt k 257 then (bif Nat.blt k 256 then 24 else 20) else (bif Nat.blt k 258 then 19 else 19)) else (bif Nat.blt k 261 then (bif Nat.blt k 260 then 24 else 24) else (bif Nat.blt k 262 then 20 else (bif Nat.blt k 263 then 20 else 20))))) else (bif Nat.blt k 273 then (bif Nat.blt k 268 then (bif Nat.blt k 266 then (bif Nat.blt k 265 then 17 else 17) else (bif Nat.blt k 267 then 20 else 17)) else (bif Nat.blt k 270 then (bif Nat.blt k 269 then 17 else 16) else (bif Nat.blt k 271 then 16 else (bif Nat.blt k 272 then 15 else 16)))) else (bif Nat.blt k 277 then (bif Nat.blt k 275 then (bif Nat.blt k 274 then 17 else 19) else (bif Nat.blt k 276 then 16 else 16)) else (bif Nat.blt k 279 then (bif Nat.blt k 278 then 17 else 17) else (bif Nat.blt k 280 then 16 else (bif Nat.blt k 281 then 12 else 2479)))))))))
def mcode (k pc : Nat) : Option En := bif Nat.blt pc (mtop k) then mraw k pc else none
def mown (k : Nat) : String := (bif Nat.blt k 141 then (bif Nat.blt k 70 then (bif Nat.blt k 35 then (bif Nat.blt k 17 then (bif Nat.blt k 8 then (bif Nat.blt k 4 then (bif Nat.blt k 2 then (bif Nat.blt k 1 then "java/lang/AbstractStringBuilder" else "java/lang/AbstractStringBuilder") else (bif Nat.blt k 3 then "java/lang/AbstractStringBuilder" else "java/lang/AbstractStringBuilder")) else (bif Nat.blt k 6 then (bif Nat.blt k 5 then "java/lang/AbstractStringBuilder" else "java/lang/AbstractStringBuilder") else (bif Nat.blt k 7 then "java/lang/AbstractStringBuilder" else "java/lang/AbstractStringBuilder"))) else (bif Nat.blt k 12 then (bif Nat.blt k 10 then (bif Nat.blt k 9 then "java/lang/AbstractStringBuilder" else "java/lang/Enum") else (bif Nat.blt k 11 then "java/lang/Integer" else "java/lang/Integer")) else (bif Nat.blt k 14 then (bif Nat.blt k 13 then "java/lang/Math" else "java/lang/String") else (bif Nat.blt k 15 then "java/lang/String" else (bif Nat.blt k 16 then "java/lang/String" else "java/lang/String"))))) else (bif Nat.blt k 26 then (bif Nat.blt k 21 then (bif Nat.blt k 19 then (bif Nat.blt k 18 then "java/lang/String" else "java/lang/StringBuilder") else (bif Nat.blt k 20 then "java/lang/StringBuilder" else "java/lang/StringBuilder")) else (bif Nat.blt k 23 then (bif Nat.blt k 22 then "java/lang/StringBuilder" else "java/lang/StringBuilder") else (bif Nat.blt k 24 then "java/lang/StringBuilder" else (bif Nat.blt k 25 then "java/lang/StringLatin1" else "java/lang/StringLatin1")))) else (bif Nat.blt k 30 then (bif Nat.blt k 28 then (bif Nat.blt k 27 then "java/util/Arrays" else "jdk/internal/util/Preconditions") else (bif Nat.blt k 29 then "jdk/internal/util/ArraysSupport" else "SingleTrackLine$History")) else (bif Nat.blt k 32 then (bif Nat.blt k 31 then "SingleTrackLine$History" else "SingleTrackLine$History") else (bif Nat.blt k 33 then "SingleTrackLine$History" else (bif Nat.blt k 34 then "SingleTrackLine$History" else "SingleTrackLine$Line")))))) else (bif Nat.blt k 52 then (bif Nat.blt k 43 then (bif Nat.blt k 39 then (bif Nat.blt k 37 then (bif Nat.blt k 36 then "SingleTrackLine$Line" else "SingleTrackLine$Line") else (bif Nat.blt k 38 then "SingleTrackLine$Line" else "SingleTrackLine$Line")) else (bif Nat.blt k 41 then (bif Nat.blt k 40 then "SingleTrackLine$Line" else "SingleTrackLine$Line") else (bif Nat.blt k 42 then "SingleTrackLine$Line" else "SingleTrackLine$Line"))) else (bif Nat.blt k 47 then (bif Nat.blt k 45 then (bif Nat.blt k 44 then "SingleTrackLine$Line" else "SingleTrackLine$Line") else (bif Nat.blt k 46 then "SingleTrackLine$Line" else "SingleTrackLine$Line")) else (bif Nat.blt k 49 then (bif Nat.blt k 48 then "SingleTrackLine$Line" else "SingleTrackLine$Line") else (bif Nat.blt k 50 then "SingleTrackLine$Line" else (bif Nat.blt k 51 then "SingleTrackLine$Line" else "SingleTrackLine$Line"))))) else (bif Nat.blt k 61 then (bif Nat.blt k 56 then (bif Nat.blt k 54 then (bif Nat.blt k 53 then "SingleTrackLine$Line" else "SingleTrackLine$Line") else (bif Nat.blt k 55 then "SingleTrackLine$Line" else "SingleTrackLine$Line")) else (bif Nat.blt k 58 then (bif Nat.blt k 57 then "SingleTrackLine$Line" else "SingleTrackLine$Line") else (bif Nat.blt k 59 then "SingleTrackLine$Line" else (bif Nat.blt k 60 then "SingleTrackLine$Line" else "SingleTrackLine$Line")))) else (bif Nat.blt k 65 then (bif Nat.blt k 63 then (bif Nat.blt k 62 then "SingleTrackLine$Line" else "SingleTrackLine$Line") else (bif Nat.blt k 64 then "SingleTrackLine$Line" else "SingleTrackLine$Line")) else (bif Nat.blt k 67 then (bif Nat.blt k 66 then "SingleTrackLine$Line" else "SingleTrackLine$Line") else (bif Nat.blt k 68 then "SingleTrackLine$Line" else (bif Nat.blt k 69 then "SingleTrackLine$Program" else "SingleTrackLine$Program"))))))) else (bif Nat.blt k 105 then (bif Nat.blt k 87 then (bif Nat.blt k 78 then (bif Nat.blt k 74 then (bif Nat.blt k 72 then (bif Nat.blt k 71 then "SingleTrackLine$Program" else "SingleTrackLine$Program") else (bif Nat.blt k 73 then "SingleTrackLine$Program" else "SingleTrackLine$Program")) else (bif Nat.blt k 76 then (bif Nat.blt k 75 then "SingleTrackLine$Program" else "SingleTrackLine$Program") else (bif Nat.blt k 77 then "SingleTrackLine$Program" else "SingleTrackLine$Program"))) else (bif Nat.blt k 82 then (bif Nat.blt k 80 then (bif Nat.blt k 79 then "SingleTrackLine$Program" else "SingleTrackLine$Program") else (bif Nat.blt k 81 then "SingleTrackLine$Program" else "SingleTrackLine$Train")) else (bif Nat.blt k 84 then (bif Nat.blt k 83 then "SingleTrackLine$Train" else "SingleTrackLine$Train") else (bif Nat.blt k 85 then "SingleTrackLine$Train" else (bif Nat.blt k 86 then "SingleTrackLine$Train" else "SingleTrackLine$Train"))))) else (bif Nat.blt k 96 then (bif Nat.blt k 91 then (bif Nat.blt k 89 then (bif Nat.blt k 88 then "SingleTrackLine$Train" else "SingleTrackLine$Train") else (bif Nat.blt k 90 then "SingleTrackLine$Train" else "SingleTrackLine")) else (bif Nat.blt k 93 then (bif Nat.blt k 92 then "SingleTrackLine" else "SingleTrackLine") else (bif Nat.blt k 94 then "SingleTrackLine" else (bif Nat.blt k 95 then "SingleTrackLine" else "SingleTrackLine")))) else (bif Nat.blt k 100 then (bif Nat.blt k 98 then (bif Nat.blt k 97 then "SingleTrackLine" else "SingleTrackLine") else (bif Nat.blt k 99 then "SingleTrackLine" else "SingleTrackLine")) else (bif Nat.blt k 102 then (bif Nat.blt k 101 then "SingleTrackLine" else "SingleTrackLine") else (bif Nat.blt k 103 then "SingleTrackLine" else (bif Nat.blt k 104 then "SingleTrackLine" else "SingleTrackLine")))))) else (bif Nat.blt k 123 then (bif Nat.blt k 114 then (bif Nat.blt k 109 then (bif Nat.blt k 107 then (bif Nat.blt k 106 then "SingleTrackLine" else "SingleTrackLine") else (bif Nat.blt k 108 then "SingleTrackLine" else "SingleTrackLine")) else (bif Nat.blt k 111 then (bif Nat.blt k 110 then "SingleTrackLine" else "SingleTrackLine") else (bif Nat.blt k 112 then "SingleTrackLine" else (bif Nat.blt k 113 then "SingleTrackLine" else "SingleTrackLine")))) else (bif Nat.blt k 118 then (bif Nat.blt k 116 then (bif Nat.blt k 115 then "SingleTrackLine" else "SingleTrackLine") else (bif Nat.blt k 117 then "SingleTrackLine" else "SingleTrackLine")) else (bif Nat.blt k 120 then (bif Nat.blt k 119 then "SingleTrackLine" else "SingleTrackLine") else (bif Nat.blt k 121 then "SingleTrackLine" else (bif Nat.blt k 122 then "SingleTrackLine" else "SingleTrackLine"))))) else (bif Nat.blt k 132 then (bif Nat.blt k 127 then (bif Nat.blt k 125 then (bif Nat.blt k 124 then "SingleTrackLine" else "SingleTrackLine") else (bif Nat.blt k 126 then "SingleTrackLine" else "SingleTrackLine")) else (bif Nat.blt k 129 then (bif Nat.blt k 128 then "SingleTrackLine" else "SingleTrackLine") else (bif Nat.blt k 130 then "SingleTrackLine" else (bif Nat.blt k 131 then "SingleTrackLine" else "SingleTrackLine")))) else (bif Nat.blt k 136 then (bif Nat.blt k 134 then (bif Nat.blt k 133 then "SingleTrackLine" else "SingleTrackLine") else (bif Nat.blt k 135 then "SingleTrackLine" else "SingleTrackLine")) else (bif Nat.blt k 138 then (bif Nat.blt k 137 then "SingleTrackLine" else "SingleTrackLine") else (bif Nat.blt k 139 then "SingleTrackLine" else (bif Nat.blt k 140 then "SingleTrackLine" else "SingleTrackLine")))))))) else (bif Nat.blt k 211 then (bif Nat.blt k 176 then (bif Nat.blt k 158 then (bif Nat.blt k 149 then (bif Nat.blt k 145 then (bif Nat.blt k 143 then (bif Nat.blt k 142 then "SingleTrackLine" else "SingleTrackLine") else (bif Nat.blt k 144 then "SingleTrackLine" else "SingleTrackLine")) else (bif Nat.blt k 147 then (bif Nat.blt k 146 then "SingleTrackLine" else "SingleTrackLine") else (bif Nat.blt k 148 then "SingleTrackLine" else "SingleTrackLineModel"))) else (bif Nat.blt k 153 then (bif Nat.blt k 151 then (bif Nat.blt k 150 then "SingleTrackLineModel" else "SingleTrackLineModel") else (bif Nat.blt k 152 then "SingleTrackLineModel" else "SingleTrackLineModel")) else (bif Nat.blt k 155 then (bif Nat.blt k 154 then "SingleTrackLineModel" else "SingleTrackLineModel") else (bif Nat.blt k 156 then "SingleTrackLineModel" else (bif Nat.blt k 157 then "SingleTrackLineModel" else "SingleTrackLineModel"))))) else (bif Nat.blt k 167 then (bif Nat.blt k 162 then (bif Nat.blt k 160 then (bif Nat.blt k 159 then "SingleTrackLineModel" else "SingleTrackLineModel") else (bif Nat.blt k 161 then "SingleTrackLineModel" else "SingleTrackLineModel")) else (bif Nat.blt k 164 then (bif Nat.blt k 163 then "SingleTrackLineModel" else "SingleTrackLineModel") else (bif Nat.blt k 165 then "SingleTrackLineModel" else (bif Nat.blt k 166 then "SingleTrackLineModel" else "SingleTrackLineModel")))) else (bif Nat.blt k 171 then (bif Nat.blt k 169 then (bif Nat.blt k 168 then "SingleTrackLineModel" else "SingleTrackLineModel") else (bif Nat.blt k 170 then "SingleTrackLineModel" else "SingleTrackLineModel")) else (bif Nat.blt k 173 then (bif Nat.blt k 172 then "SingleTrackLineModel" else "SingleTrackLineModel") else (bif Nat.blt k 174 then "SingleTrackLineModel" else (bif Nat.blt k 175 then "SingleTrackLineModel" else "SingleTrackLineModel")))))) else (bif Nat.blt k 193 then (bif Nat.blt k 184 then (bif Nat.blt k 180 then (bif Nat.blt k 178 then (bif Nat.blt k 177 then "SingleTrackLineModel" else "SingleTrackLineModel") else (bif Nat.blt k 179 then "SingleTrackLineModel" else "SingleTrackLineModel")) else (bif Nat.blt k 182 then (bif Nat.blt k 181 then "SingleTrackLineModel" else "SingleTrackLineModel") else (bif Nat.blt k 183 then "SingleTrackLineModel" else "SingleTrackLineModel"))) else (bif Nat.blt k 188 then (bif Nat.blt k 186 then (bif Nat.blt k 185 then "SingleTrackLineModel" else "SingleTrackLineModel") else (bif Nat.blt k 187 then "SingleTrackLineModel" else "SingleTrackLineModel")) else (bif Nat.blt k 190 then (bif Nat.blt k 189 then "SingleTrackLineModel" else "SingleTrackLineModel") else (bif Nat.blt k 191 then "SingleTrackLineModel" else (bif Nat.blt k 192 then "SingleTrackLineModel" else "SingleTrackLineModel"))))) else (bif Nat.blt k 202 then (bif Nat.blt k 197 then (bif Nat.blt k 195 then (bif Nat.blt k 194 then "SingleTrackLineModel" else "SingleTrackLineModel") else (bif Nat.blt k 196 then "SingleTrackLineModel" else "SingleTrackLineModel")) else (bif Nat.blt k 199 then (bif Nat.blt k 198 then "SingleTrackLineModel" else "SingleTrackLineModel") else (bif Nat.blt k 200 then "SingleTrackLineModel" else (bif Nat.blt k 201 then "SingleTrackLineModel" else "SingleTrackLineModel")))) else (bif Nat.blt k 206 then (bif Nat.blt k 204 then (bif Nat.blt k 203 then "SingleTrackLineModel" else "SingleTrackLineModel") else (bif Nat.blt k 205 then "SingleTrackLineModel" else "SingleTrackLineModel")) else (bif Nat.blt k 208 then (bif Nat.blt k 207 then "SingleTrackLineModel" else "SingleTrackLineModel") else (bif Nat.blt k 209 then "SingleTrackLineModel" else (bif Nat.blt k 210 then "SingleTrackLineModel" else "SingleTrackLineModel"))))))) else (bif Nat.blt k 246 then (bif Nat.blt k 228 then (bif Nat.blt k 219 then (bif Nat.blt k 215 then (bif Nat.blt k 213 then (bif Nat.blt k 212 then "SingleTrackLineModel" else "SingleTrackLineModel") else (bif Nat.blt k 214 then "SingleTrackLineModel" else "SingleTrackLineModel")) else (bif Nat.blt k 217 then (bif Nat.blt k 216 then "SingleTrackLineModel" else "SingleTrackLineModel") else (bif Nat.blt k 218 then "SingleTrackLineModel" else "SingleTrackLineModel"))) else (bif Nat.blt k 223 then (bif Nat.blt k 221 then (bif Nat.blt k 220 then "SingleTrackLineModel" else "SingleTrackLineModel") else (bif Nat.blt k 222 then "SingleTrackLineModel" else "SingleTrackLineModel")) else (bif Nat.blt k 225 then (bif Nat.blt k 224 then "SingleTrackLineModel" else "SingleTrackLineModel") else (bif Nat.blt k 226 then "SingleTrackLineModel" else (bif Nat.blt k 227 then "SingleTrackLineModel" else "SingleTrackLineModel"))))) else (bif Nat.blt k 237 then (bif Nat.blt k 232 then (bif Nat.blt k 230 then (bif Nat.blt k 229 then "SingleTrackLineModel" else "SingleTrackLineModel") else (bif Nat.blt k 231 then "SingleTrackLineModel" else "SingleTrackLineModel")) else (bif Nat.blt k 234 then (bif Nat.blt k 233 then "SingleTrackLineModel" else "SingleTrackLineModel") else (bif Nat.blt k 235 then "SingleTrackLineModel" else (bif Nat.blt k 236 then "SingleTrackLineModel" else "SingleTrackLineModel")))) else (bif Nat.blt k 241 then (bif Nat.blt k 239 then (bif Nat.blt k 238 then "SingleTrackLineModel" else "SingleTrackLineModel") else (bif Nat.blt k 240 then "SingleTrackLineModel" else "SingleTrackLineModel")) else (bif Nat.blt k 243 then (bif Nat.blt k 242 then "SingleTrackLineModel" else "SingleTrackLineModel") else (bif Nat.blt k 244 then "SingleTrackLineModel" else (bif Nat.blt k 245 then "SingleTrackLineLaw" else "SingleTrackLineLaw")))))) else (bif Nat.blt k 264 then (bif Nat.blt k 255 then (bif Nat.blt k 250 then (bif Nat.blt k 248 then (bif Nat.blt k 247 then "SingleTrackLineLaw" else "SingleTrackLineLaw") else (bif Nat.blt k 249 then "SingleTrackLineLaw" else "SingleTrackLineLaw")) else (bif Nat.blt k 252 then (bif Nat.blt k 251 then "SingleTrackLineLaw" else "SingleTrackLineLaw") else (bif Nat.blt k 253 then "SingleTrackLineLaw" else (bif Nat.blt k 254 then "SingleTrackLineLaw" else "SingleTrackLineLaw")))) else (bif Nat.blt k 259 then (bif Nat.blt k 257 then (bif Nat.blt k 256 then "SingleTrackLineLaw" else "SingleTrackLineLaw") else (bif Nat.blt k 258 then "SingleTrackLineLaw" else "SingleTrackLineLaw")) else (bif Nat.blt k 261 then (bif Nat.blt k 260 then "SingleTrackLineLaw" else "SingleTrackLineLaw") else (bif Nat.blt k 262 then "SingleTrackLineLaw" else (bif Nat.blt k 263 then "SingleTrackLineLaw" else "SingleTrackLineLaw"))))) else (bif Nat.blt k 273 then (bif Nat.blt k 268 then (bif Nat.blt k 266 then (bif Nat.blt k 265 then "SingleTrackLineLaw" else "SingleTrackLineLaw") else (bif Nat.blt k 267 then "SingleTrackLineLaw" else "SingleTrackLineLaw")) else (bif Nat.blt k 270 then (bif Nat.blt k 269 then "SingleTrackLineLaw" else "SingleTrackLineLaw") else (bif Nat.blt k 271 then "SingleTrackLineLaw" else (bif Nat.blt k 272 then "SingleTrackLineLaw" else "SingleTrackLineLaw")))) else (bif Nat.blt k 277 then (bif Nat.blt k 275 then (bif Nat.blt k 274 then "SingleTrackLineLaw" else "SingleTrackLineLaw") else (bif Nat.blt k 276 then "SingleTrackLineLaw" else "SingleTrackLineLaw")) else (bif Nat.blt k 279 then (bif Nat.blt k 278 then "SingleTrackLineLaw" else "SingleTrackLineLaw") else (bif Nat.blt k 280 then "SingleTrackLineLaw" else (bif Nat.blt k 281 then "SingleTrackLineLaw" else "SingleTrackLineLaw")))))))))
def mname (k : Nat) : MethodName := (bif Nat.blt k 141 then (bif Nat.blt k 70 then (bif Nat.blt k 35 then (bif Nat.blt k 17 then (bif Nat.blt k 8 then (bif Nat.blt k 4 then (bif Nat.blt k 2 then (bif Nat.blt k 1 then ⟨"java/lang/AbstractStringBuilder", "<init>", "(I)V"⟩ else ⟨"java/lang/AbstractStringBuilder", "ensureCapacityInternal", "(I)V"⟩) else (bif Nat.blt k 3 then ⟨"java/lang/AbstractStringBuilder", "newCapacity", "(I)I"⟩ else ⟨"java/lang/AbstractStringBuilder", "setLength", "(I)V"⟩)) else (bif Nat.blt k 6 then (bif Nat.blt k 5 then ⟨"java/lang/AbstractStringBuilder", "charAt", "(I)C"⟩ else ⟨"java/lang/AbstractStringBuilder", "append", "(C)Ljava/lang/AbstractStringBuilder;"⟩) else (bif Nat.blt k 7 then ⟨"java/lang/AbstractStringBuilder", "append", "(I)Ljava/lang/AbstractStringBuilder;"⟩ else ⟨"java/lang/AbstractStringBuilder", "isLatin1", "()Z"⟩))) else (bif Nat.blt k 12 then (bif Nat.blt k 10 then (bif Nat.blt k 9 then ⟨"java/lang/AbstractStringBuilder", "length", "()I"⟩ else ⟨"java/lang/Enum", "ordinal", "()I"⟩) else (bif Nat.blt k 11 then ⟨"java/lang/Integer", "getChars", "(II[B)I"⟩ else ⟨"java/lang/Integer", "stringSize", "(I)I"⟩)) else (bif Nat.blt k 14 then (bif Nat.blt k 13 then ⟨"java/lang/Math", "floorMod", "(II)I"⟩ else ⟨"java/lang/String", "length", "()I"⟩) else (bif Nat.blt k 15 then ⟨"java/lang/String", "charAt", "(I)C"⟩ else (bif Nat.blt k 16 then ⟨"java/lang/String", "coder", "()B"⟩ else ⟨"java/lang/String", "isLatin1", "()Z"⟩))))) else (bif Nat.blt k 26 then (bif Nat.blt k 21 then (bif Nat.blt k 19 then (bif Nat.blt k 18 then ⟨"java/lang/String", "checkIndex", "(II)V"⟩ else ⟨"java/lang/StringBuilder", "<init>", "()V"⟩) else (bif Nat.blt k 20 then ⟨"java/lang/StringBuilder", "append", "(C)Ljava/lang/StringBuilder;"⟩ else ⟨"java/lang/StringBuilder", "append", "(I)Ljava/lang/StringBuilder;"⟩)) else (bif Nat.blt k 23 then (bif Nat.blt k 22 then ⟨"java/lang/StringBuilder", "charAt", "(I)C"⟩ else ⟨"java/lang/StringBuilder", "setLength", "(I)V"⟩) else (bif Nat.blt k 24 then ⟨"java/lang/StringBuilder", "length", "()I"⟩ else (bif Nat.blt k 25 then ⟨"java/lang/StringLatin1", "charAt", "([BI)C"⟩ else ⟨"java/lang/StringLatin1", "canEncode", "(C)Z"⟩)))) else (bif Nat.blt k 30 then (bif Nat.blt k 28 then (bif Nat.blt k 27 then ⟨"java/util/Arrays", "copyOf", "([BI)[B"⟩ else ⟨"jdk/internal/util/Preconditions", "checkIndex", "(IILjava/util/function/BiFunction;)I"⟩) else (bif Nat.blt k 29 then ⟨"jdk/internal/util/ArraysSupport", "newLength", "(III)I"⟩ else ⟨"SingleTrackLine$History", "<init>", "()V"⟩)) else (bif Nat.blt k 32 then (bif Nat.blt k 31 then ⟨"SingleTrackLine$History", "note", "(LSingleTrackLine$Line;)V"⟩ else ⟨"SingleTrackLine$History", "noted", "()LSingleTrackLine$Line;"⟩) else (bif Nat.blt k 33 then ⟨"SingleTrackLine$History", "keepNoted", "()V"⟩ else (bif Nat.blt k 34 then ⟨"SingleTrackLine$History", "takeLast", "()LSingleTrackLine$Line;"⟩ else ⟨"SingleTrackLine$Line", "<init>", "()V"⟩)))))) else (bif Nat.blt k 52 then (bif Nat.blt k 43 then (bif Nat.blt k 39 then (bif Nat.blt k 37 then (bif Nat.blt k 36 then ⟨"SingleTrackLine$Line", "copyFrom", "(LSingleTrackLine$Line;)V"⟩ else ⟨"SingleTrackLine$Line", "carryOut", "(LSingleTrackLine$Command;III)I"⟩) else (bif Nat.blt k 38 then ⟨"SingleTrackLine$Line", "putStation", "(II)I"⟩ else ⟨"SingleTrackLine$Line", "changeTracks", "(II)I"⟩)) else (bif Nat.blt k 41 then (bif Nat.blt k 40 then ⟨"SingleTrackLine$Line", "putTrain", "(III)I"⟩ else ⟨"SingleTrackLine$Line", "changeHolding", "(IZ)I"⟩) else (bif Nat.blt k 42 then ⟨"SingleTrackLine$Line", "takeTrainOff", "(I)I"⟩ else ⟨"SingleTrackLine$Line", "letPass", "(I)I"⟩))) else (bif Nat.blt k 47 then (bif Nat.blt k 45 then (bif Nat.blt k 44 then ⟨"SingleTrackLine$Line", "remove", "(LSingleTrackLine$Train;)V"⟩ else ⟨"SingleTrackLine$Line", "passMinute", "()V"⟩) else (bif Nat.blt k 46 then ⟨"SingleTrackLine$Line", "moveTrains", "()V"⟩ else ⟨"SingleTrackLine$Line", "arrive", "(LSingleTrackLine$Train;)V"⟩)) else (bif Nat.blt k 49 then (bif Nat.blt k 48 then ⟨"SingleTrackLine$Line", "bringExpectedTrains", "()V"⟩ else ⟨"SingleTrackLine$Line", "letTrainsLeave", "()V"⟩) else (bif Nat.blt k 50 then ⟨"SingleTrackLine$Line", "tryToLeave", "(LSingleTrackLine$Train;)V"⟩ else (bif Nat.blt k 51 then ⟨"SingleTrackLine$Line", "findNextToLeave", "(LSingleTrackLine$Train;)LSingleTrackLine$Train;"⟩ else ⟨"SingleTrackLine$Line", "copyAlone", "(LSingleTrackLine$Line;I)V"⟩))))) else (bif Nat.blt k 61 then (bif Nat.blt k 56 then (bif Nat.blt k 54 then (bif Nat.blt k 53 then ⟨"SingleTrackLine$Line", "passUntilArrival", "(I)I"⟩ else ⟨"SingleTrackLine$Line", "passUntilStuck", "()I"⟩) else (bif Nat.blt k 55 then ⟨"SingleTrackLine$Line", "confirmsPlansOf", "(LSingleTrackLine$Line;)Z"⟩ else ⟨"SingleTrackLine$Line", "hasStation", "(I)Z"⟩)) else (bif Nat.blt k 58 then (bif Nat.blt k 57 then ⟨"SingleTrackLine$Line", "hasSection", "(I)Z"⟩ else ⟨"SingleTrackLine$Line", "isTrackCount", "(I)Z"⟩) else (bif Nat.blt k 59 then ⟨"SingleTrackLine$Line", "findTrain", "(I)LSingleTrackLine$Train;"⟩ else (bif Nat.blt k 60 then ⟨"SingleTrackLine$Line", "findHolder", "(I)LSingleTrackLine$Train;"⟩ else ⟨"SingleTrackLine$Line", "countFreeTracks", "(I)I"⟩)))) else (bif Nat.blt k 65 then (bif Nat.blt k 63 then (bif Nat.blt k 62 then ⟨"SingleTrackLine$Line", "sumRunningTimes", "(II)I"⟩ else ⟨"SingleTrackLine$Line", "subtractPositions", "(II)I"⟩) else (bif Nat.blt k 64 then ⟨"SingleTrackLine$Line", "isYetToDepart", "(LSingleTrackLine$Train;)Z"⟩ else ⟨"SingleTrackLine$Line", "findRank", "(LSingleTrackLine$Train;)I"⟩)) else (bif Nat.blt k 67 then (bif Nat.blt k 66 then ⟨"SingleTrackLine$Line", "hasNoOverfullStation", "()Z"⟩ else ⟨"SingleTrackLine$Line", "hasNoSharedSection", "()Z"⟩) else (bif Nat.blt k 68 then ⟨"SingleTrackLine$Line", "hasAgreeingDistances", "()Z"⟩ else (bif Nat.blt k 69 then ⟨"SingleTrackLine$Program", "<init>", "()V"⟩ else ⟨"SingleTrackLine$Program", "isFull", "()Z"⟩))))))) else (bif Nat.blt k 105 then (bif Nat.blt k 87 then (bif Nat.blt k 78 then (bif Nat.blt k 74 then (bif Nat.blt k 72 then (bif Nat.blt k 71 then ⟨"SingleTrackLine$Program", "put", "(C)I"⟩ else ⟨"SingleTrackLine$Program", "empty", "()V"⟩) else (bif Nat.blt k 73 then ⟨"SingleTrackLine$Program", "rewind", "()V"⟩ else ⟨"SingleTrackLine$Program", "findError", "()I"⟩)) else (bif Nat.blt k 76 then (bif Nat.blt k 75 then ⟨"SingleTrackLine$Program", "readNextCommand", "()V"⟩ else ⟨"SingleTrackLine$Program", "readCommand", "()Z"⟩) else (bif Nat.blt k 77 then ⟨"SingleTrackLine$Program", "follow", "(Ljava/lang/String;)Z"⟩ else ⟨"SingleTrackLine$Program", "followSign", "(C)Z"⟩))) else (bif Nat.blt k 82 then (bif Nat.blt k 80 then (bif Nat.blt k 79 then ⟨"SingleTrackLine$Program", "takeNumber", "(I)Z"⟩ else ⟨"SingleTrackLine$Program", "isAtDigit", "()Z"⟩) else (bif Nat.blt k 81 then ⟨"SingleTrackLine$Program", "take", "(C)Z"⟩ else ⟨"SingleTrackLine$Train", "<init>", "()V"⟩)) else (bif Nat.blt k 84 then (bif Nat.blt k 83 then ⟨"SingleTrackLine$Train", "isPresent", "()Z"⟩ else ⟨"SingleTrackLine$Train", "isAt", "(I)Z"⟩) else (bif Nat.blt k 85 then ⟨"SingleTrackLine$Train", "step", "()I"⟩ else (bif Nat.blt k 86 then ⟨"SingleTrackLine$Train", "stopAt", "(II)V"⟩ else ⟨"SingleTrackLine$Train", "enterSection", "(III)V"⟩))))) else (bif Nat.blt k 96 then (bif Nat.blt k 91 then (bif Nat.blt k 89 then (bif Nat.blt k 88 then ⟨"SingleTrackLine$Train", "leavesBefore", "(LSingleTrackLine$Train;)Z"⟩ else ⟨"SingleTrackLine$Train", "ranksBefore", "(LSingleTrackLine$Train;)Z"⟩) else (bif Nat.blt k 90 then ⟨"SingleTrackLine$Train", "copyFrom", "(LSingleTrackLine$Train;)V"⟩ else ⟨"SingleTrackLine", "<init>", "()V"⟩)) else (bif Nat.blt k 93 then (bif Nat.blt k 92 then ⟨"SingleTrackLine", "addStation", "(II)I"⟩ else ⟨"SingleTrackLine", "setTracks", "(II)I"⟩) else (bif Nat.blt k 94 then ⟨"SingleTrackLine", "addTrain", "(III)I"⟩ else (bif Nat.blt k 95 then ⟨"SingleTrackLine", "hold", "(I)I"⟩ else ⟨"SingleTrackLine", "releaseTrain", "(I)I"⟩)))) else (bif Nat.blt k 100 then (bif Nat.blt k 98 then (bif Nat.blt k 97 then ⟨"SingleTrackLine", "cancelTrain", "(I)I"⟩ else ⟨"SingleTrackLine", "advance", "(I)I"⟩) else (bif Nat.blt k 99 then ⟨"SingleTrackLine", "change", "(LSingleTrackLine$Command;III)I"⟩ else ⟨"SingleTrackLine", "throwIfRefused", "(I)V"⟩)) else (bif Nat.blt k 102 then (bif Nat.blt k 101 then ⟨"SingleTrackLine", "stationCount", "()I"⟩ else ⟨"SingleTrackLine", "tracks", "(I)I"⟩) else (bif Nat.blt k 103 then ⟨"SingleTrackLine", "freeTracks", "(I)I"⟩ else (bif Nat.blt k 104 then ⟨"SingleTrackLine", "trainsAt", "(I)I"⟩ else ⟨"SingleTrackLine", "runningTime", "(I)I"⟩)))))) else (bif Nat.blt k 123 then (bif Nat.blt k 114 then (bif Nat.blt k 109 then (bif Nat.blt k 107 then (bif Nat.blt k 106 then ⟨"SingleTrackLine", "isTokenFree", "(I)Z"⟩ else ⟨"SingleTrackLine", "tokenHolder", "(I)I"⟩) else (bif Nat.blt k 108 then ⟨"SingleTrackLine", "distance", "(II)I"⟩ else ⟨"SingleTrackLine", "distanceByPositions", "(II)I"⟩)) else (bif Nat.blt k 111 then (bif Nat.blt k 110 then ⟨"SingleTrackLine", "requireStation", "(I)V"⟩ else ⟨"SingleTrackLine", "requireSection", "(I)V"⟩) else (bif Nat.blt k 112 then ⟨"SingleTrackLine", "trainCount", "()I"⟩ else (bif Nat.blt k 113 then ⟨"SingleTrackLine", "exists", "(I)Z"⟩ else ⟨"SingleTrackLine", "isExpected", "(I)Z"⟩)))) else (bif Nat.blt k 118 then (bif Nat.blt k 116 then (bif Nat.blt k 115 then ⟨"SingleTrackLine", "isHeld", "(I)Z"⟩ else ⟨"SingleTrackLine", "stationOf", "(I)I"⟩) else (bif Nat.blt k 117 then ⟨"SingleTrackLine", "sectionOf", "(I)I"⟩ else ⟨"SingleTrackLine", "remainingTime", "(I)I"⟩)) else (bif Nat.blt k 120 then (bif Nat.blt k 119 then ⟨"SingleTrackLine", "waitedMinutes", "(I)I"⟩ else ⟨"SingleTrackLine", "plannedArrival", "(I)I"⟩) else (bif Nat.blt k 121 then ⟨"SingleTrackLine", "arrivalAlone", "(I)I"⟩ else (bif Nat.blt k 122 then ⟨"SingleTrackLine", "predictedArrival", "(I)I"⟩ else ⟨"SingleTrackLine", "stuckTrains", "()I"⟩))))) else (bif Nat.blt k 132 then (bif Nat.blt k 127 then (bif Nat.blt k 125 then (bif Nat.blt k 124 then ⟨"SingleTrackLine", "trainAtRank", "(I)I"⟩ else ⟨"SingleTrackLine", "requireTrain", "(I)LSingleTrackLine$Train;"⟩) else (bif Nat.blt k 126 then ⟨"SingleTrackLine", "requireTrainInSection", "(I)LSingleTrackLine$Train;"⟩ else ⟨"SingleTrackLine", "time", "()I"⟩)) else (bif Nat.blt k 129 then (bif Nat.blt k 128 then ⟨"SingleTrackLine", "finishedTrains", "()I"⟩ else ⟨"SingleTrackLine", "lastFinished", "()I"⟩) else (bif Nat.blt k 130 then ⟨"SingleTrackLine", "totalDelay", "()J"⟩ else (bif Nat.blt k 131 then ⟨"SingleTrackLine", "greatestDelay", "()I"⟩ else ⟨"SingleTrackLine", "meanDelay", "()D"⟩)))) else (bif Nat.blt k 136 then (bif Nat.blt k 134 then (bif Nat.blt k 133 then ⟨"SingleTrackLine", "punctualShare", "()F"⟩ else ⟨"SingleTrackLine", "isConsistent", "()Z"⟩) else (bif Nat.blt k 135 then ⟨"SingleTrackLine", "requireFinished", "()V"⟩ else ⟨"SingleTrackLine", "append", "(C)I"⟩)) else (bif Nat.blt k 138 then (bif Nat.blt k 137 then ⟨"SingleTrackLine", "run", "()I"⟩ else ⟨"SingleTrackLine", "errorPosition", "()I"⟩) else (bif Nat.blt k 139 then ⟨"SingleTrackLine", "failedCommand", "()I"⟩ else (bif Nat.blt k 140 then ⟨"SingleTrackLine", "requireProgram", "()V"⟩ else ⟨"SingleTrackLine", "writeLine", "()I"⟩)))))))) else (bif Nat.blt k 211 then (bif Nat.blt k 176 then (bif Nat.blt k 158 then (bif Nat.blt k 149 then (bif Nat.blt k 145 then (bif Nat.blt k 143 then (bif Nat.blt k 142 then ⟨"SingleTrackLine", "writeTrain", "(I)I"⟩ else ⟨"SingleTrackLine", "outputAt", "(I)C"⟩) else (bif Nat.blt k 144 then ⟨"SingleTrackLine", "writeStation", "(I)V"⟩ else ⟨"SingleTrackLine", "writeSection", "(I)V"⟩)) else (bif Nat.blt k 147 then (bif Nat.blt k 146 then ⟨"SingleTrackLine", "undo", "()I"⟩ else ⟨"SingleTrackLine", "save", "()V"⟩) else (bif Nat.blt k 148 then ⟨"SingleTrackLine", "restore", "()V"⟩ else ⟨"SingleTrackLineModel", "<init>", "()V"⟩))) else (bif Nat.blt k 153 then (bif Nat.blt k 151 then (bif Nat.blt k 150 then ⟨"SingleTrackLineModel", "thrown", "()I"⟩ else ⟨"SingleTrackLineModel", "throwing", "(I)I"⟩) else (bif Nat.blt k 152 then ⟨"SingleTrackLineModel", "in", "(JJJ)Z"⟩ else ⟨"SingleTrackLineModel", "starts", "()V"⟩)) else (bif Nat.blt k 155 then (bif Nat.blt k 154 then ⟨"SingleTrackLineModel", "changed", "(I)I"⟩ else ⟨"SingleTrackLineModel", "trainAt", "(I)I"⟩) else (bif Nat.blt k 156 then ⟨"SingleTrackLineModel", "isStation", "(I)Z"⟩ else (bif Nat.blt k 157 then ⟨"SingleTrackLineModel", "isSection", "(I)Z"⟩ else ⟨"SingleTrackLineModel", "find", "(I)I"⟩))))) else (bif Nat.blt k 167 then (bif Nat.blt k 162 then (bif Nat.blt k 160 then (bif Nat.blt k 159 then ⟨"SingleTrackLineModel", "way", "(I)I"⟩ else ⟨"SingleTrackLineModel", "ahead", "(I)I"⟩) else (bif Nat.blt k 161 then ⟨"SingleTrackLineModel", "holder", "(I)I"⟩ else ⟨"SingleTrackLineModel", "standing", "(I)I"⟩)) else (bif Nat.blt k 164 then (bif Nat.blt k 163 then ⟨"SingleTrackLineModel", "taken", "(I)I"⟩ else ⟨"SingleTrackLineModel", "free", "(I)I"⟩) else (bif Nat.blt k 165 then ⟨"SingleTrackLineModel", "between", "(II)I"⟩ else (bif Nat.blt k 166 then ⟨"SingleTrackLineModel", "planned", "(I)I"⟩ else ⟨"SingleTrackLineModel", "leavesLine", "(I)V"⟩)))) else (bif Nat.blt k 171 then (bif Nat.blt k 169 then (bif Nat.blt k 168 then ⟨"SingleTrackLineModel", "stationIt", "(II)I"⟩ else ⟨"SingleTrackLineModel", "addStation", "(II)I"⟩) else (bif Nat.blt k 170 then ⟨"SingleTrackLineModel", "tracksIt", "(II)I"⟩ else ⟨"SingleTrackLineModel", "setTracks", "(II)I"⟩)) else (bif Nat.blt k 173 then (bif Nat.blt k 172 then ⟨"SingleTrackLineModel", "trainIt", "(III)I"⟩ else ⟨"SingleTrackLineModel", "addTrain", "(III)I"⟩) else (bif Nat.blt k 174 then ⟨"SingleTrackLineModel", "held", "()I"⟩ else (bif Nat.blt k 175 then ⟨"SingleTrackLineModel", "holdIt", "(II)I"⟩ else ⟨"SingleTrackLineModel", "hold", "(I)I"⟩)))))) else (bif Nat.blt k 193 then (bif Nat.blt k 184 then (bif Nat.blt k 180 then (bif Nat.blt k 178 then (bif Nat.blt k 177 then ⟨"SingleTrackLineModel", "releaseTrain", "(I)I"⟩ else ⟨"SingleTrackLineModel", "cancelIt", "(I)I"⟩) else (bif Nat.blt k 179 then ⟨"SingleTrackLineModel", "cancelTrain", "(I)I"⟩ else ⟨"SingleTrackLineModel", "hasCome", "(I)Z"⟩)) else (bif Nat.blt k 182 then (bif Nat.blt k 181 then ⟨"SingleTrackLineModel", "comes", "(II)V"⟩ else ⟨"SingleTrackLineModel", "finishes", "(I)V"⟩) else (bif Nat.blt k 183 then ⟨"SingleTrackLineModel", "runsOn", "()V"⟩ else ⟨"SingleTrackLineModel", "begins", "()V"⟩))) else (bif Nat.blt k 188 then (bif Nat.blt k 186 then (bif Nat.blt k 185 then ⟨"SingleTrackLineModel", "triesToLeave", "(I)V"⟩ else ⟨"SingleTrackLineModel", "visited", "(I)I"⟩) else (bif Nat.blt k 187 then ⟨"SingleTrackLineModel", "minute", "()V"⟩ else ⟨"SingleTrackLineModel", "advanceIt", "(I)I"⟩)) else (bif Nat.blt k 190 then (bif Nat.blt k 189 then ⟨"SingleTrackLineModel", "advance", "(I)I"⟩ else ⟨"SingleTrackLineModel", "total", "(I)I"⟩) else (bif Nat.blt k 191 then ⟨"SingleTrackLineModel", "stationCount", "()I"⟩ else (bif Nat.blt k 192 then ⟨"SingleTrackLineModel", "tracks", "(I)I"⟩ else ⟨"SingleTrackLineModel", "freeTracks", "(I)I"⟩))))) else (bif Nat.blt k 202 then (bif Nat.blt k 197 then (bif Nat.blt k 195 then (bif Nat.blt k 194 then ⟨"SingleTrackLineModel", "trainsAt", "(I)I"⟩ else ⟨"SingleTrackLineModel", "runningTime", "(I)I"⟩) else (bif Nat.blt k 196 then ⟨"SingleTrackLineModel", "isTokenFree", "(I)Z"⟩ else ⟨"SingleTrackLineModel", "tokenHolder", "(I)I"⟩)) else (bif Nat.blt k 199 then (bif Nat.blt k 198 then ⟨"SingleTrackLineModel", "distance", "(II)I"⟩ else ⟨"SingleTrackLineModel", "distanceByPositions", "(II)I"⟩) else (bif Nat.blt k 200 then ⟨"SingleTrackLineModel", "trainCount", "()I"⟩ else (bif Nat.blt k 201 then ⟨"SingleTrackLineModel", "exists", "(I)Z"⟩ else ⟨"SingleTrackLineModel", "ofTrain", "(II)I"⟩)))) else (bif Nat.blt k 206 then (bif Nat.blt k 204 then (bif Nat.blt k 203 then ⟨"SingleTrackLineModel", "isExpected", "(I)Z"⟩ else ⟨"SingleTrackLineModel", "isHeld", "(I)Z"⟩) else (bif Nat.blt k 205 then ⟨"SingleTrackLineModel", "ofTrainWhere", "(III)I"⟩ else ⟨"SingleTrackLineModel", "stationOf", "(I)I"⟩)) else (bif Nat.blt k 208 then (bif Nat.blt k 207 then ⟨"SingleTrackLineModel", "sectionOf", "(I)I"⟩ else ⟨"SingleTrackLineModel", "remainingTime", "(I)I"⟩) else (bif Nat.blt k 209 then ⟨"SingleTrackLineModel", "waitedMinutes", "(I)I"⟩ else (bif Nat.blt k 210 then ⟨"SingleTrackLineModel", "plannedArrival", "(I)I"⟩ else ⟨"SingleTrackLineModel", "arrivalAlone", "(I)I"⟩))))))) else (bif Nat.blt k 246 then (bif Nat.blt k 228 then (bif Nat.blt k 219 then (bif Nat.blt k 215 then (bif Nat.blt k 213 then (bif Nat.blt k 212 then ⟨"SingleTrackLineModel", "thinks", "()V"⟩ else ⟨"SingleTrackLineModel", "comesBack", "()V"⟩) else (bif Nat.blt k 214 then ⟨"SingleTrackLineModel", "predictedArrival", "(I)I"⟩ else ⟨"SingleTrackLineModel", "stuckTrains", "()I"⟩)) else (bif Nat.blt k 217 then (bif Nat.blt k 216 then ⟨"SingleTrackLineModel", "trainAtRank", "(I)I"⟩ else ⟨"SingleTrackLineModel", "time", "()I"⟩) else (bif Nat.blt k 218 then ⟨"SingleTrackLineModel", "finishedTrains", "()I"⟩ else ⟨"SingleTrackLineModel", "lastFinished", "()I"⟩))) else (bif Nat.blt k 223 then (bif Nat.blt k 221 then (bif Nat.blt k 220 then ⟨"SingleTrackLineModel", "totalDelay", "()J"⟩ else ⟨"SingleTrackLineModel", "greatestDelay", "()I"⟩) else (bif Nat.blt k 222 then ⟨"SingleTrackLineModel", "meanDelay", "()D"⟩ else ⟨"SingleTrackLineModel", "punctualShare", "()F"⟩)) else (bif Nat.blt k 225 then (bif Nat.blt k 224 then ⟨"SingleTrackLineModel", "isConsistent", "()Z"⟩ else ⟨"SingleTrackLineModel", "append", "(C)I"⟩) else (bif Nat.blt k 226 then ⟨"SingleTrackLineModel", "here", "()I"⟩ else (bif Nat.blt k 227 then ⟨"SingleTrackLineModel", "expects", "(I)V"⟩ else ⟨"SingleTrackLineModel", "digit", "()I"⟩))))) else (bif Nat.blt k 237 then (bif Nat.blt k 232 then (bif Nat.blt k 230 then (bif Nat.blt k 229 then ⟨"SingleTrackLineModel", "number", "()I"⟩ else ⟨"SingleTrackLineModel", "likeness", "(I)I"⟩) else (bif Nat.blt k 231 then ⟨"SingleTrackLineModel", "readArguments", "(II)V"⟩ else ⟨"SingleTrackLineModel", "readCommand", "()V"⟩)) else (bif Nat.blt k 234 then (bif Nat.blt k 233 then ⟨"SingleTrackLineModel", "does", "(I)V"⟩ else ⟨"SingleTrackLineModel", "run", "()I"⟩) else (bif Nat.blt k 235 then ⟨"SingleTrackLineModel", "errorPosition", "()I"⟩ else (bif Nat.blt k 236 then ⟨"SingleTrackLineModel", "failedCommand", "()I"⟩ else ⟨"SingleTrackLineModel", "sign", "(I)V"⟩)))) else (bif Nat.blt k 241 then (bif Nat.blt k 239 then (bif Nat.blt k 238 then ⟨"SingleTrackLineModel", "writesNumber", "(I)V"⟩ else ⟨"SingleTrackLineModel", "writeLine", "()I"⟩) else (bif Nat.blt k 240 then ⟨"SingleTrackLineModel", "writeTrain", "(I)I"⟩ else ⟨"SingleTrackLineModel", "outputAt", "(I)C"⟩)) else (bif Nat.blt k 243 then (bif Nat.blt k 242 then ⟨"SingleTrackLineModel", "undo", "()I"⟩ else ⟨"SingleTrackLineModel", "save", "()V"⟩) else (bif Nat.blt k 244 then ⟨"SingleTrackLineModel", "restore", "()V"⟩ else (bif Nat.blt k 245 then ⟨"SingleTrackLineLaw", "addStation", "(LSingleTrackLine;II[J)I"⟩ else ⟨"SingleTrackLineLaw", "setTracks", "(LSingleTrackLine;II[J)I"⟩)))))) else (bif Nat.blt k 264 then (bif Nat.blt k 255 then (bif Nat.blt k 250 then (bif Nat.blt k 248 then (bif Nat.blt k 247 then ⟨"SingleTrackLineLaw", "addTrain", "(LSingleTrackLine;III[J)I"⟩ else ⟨"SingleTrackLineLaw", "hold", "(LSingleTrackLine;I[J)I"⟩) else (bif Nat.blt k 249 then ⟨"SingleTrackLineLaw", "releaseTrain", "(LSingleTrackLine;I[J)I"⟩ else ⟨"SingleTrackLineLaw", "cancelTrain", "(LSingleTrackLine;I[J)I"⟩)) else (bif Nat.blt k 252 then (bif Nat.blt k 251 then ⟨"SingleTrackLineLaw", "advance", "(LSingleTrackLine;I[J)I"⟩ else ⟨"SingleTrackLineLaw", "tracks", "(LSingleTrackLine;I[J)I"⟩) else (bif Nat.blt k 253 then ⟨"SingleTrackLineLaw", "freeTracks", "(LSingleTrackLine;I[J)I"⟩ else (bif Nat.blt k 254 then ⟨"SingleTrackLineLaw", "trainsAt", "(LSingleTrackLine;I[J)I"⟩ else ⟨"SingleTrackLineLaw", "runningTime", "(LSingleTrackLine;I[J)I"⟩)))) else (bif Nat.blt k 259 then (bif Nat.blt k 257 then (bif Nat.blt k 256 then ⟨"SingleTrackLineLaw", "isTokenFree", "(LSingleTrackLine;I[J)I"⟩ else ⟨"SingleTrackLineLaw", "tokenHolder", "(LSingleTrackLine;I[J)I"⟩) else (bif Nat.blt k 258 then ⟨"SingleTrackLineLaw", "distance", "(LSingleTrackLine;II[J)I"⟩ else ⟨"SingleTrackLineLaw", "distanceByPositions", "(LSingleTrackLine;II[J)I"⟩)) else (bif Nat.blt k 261 then (bif Nat.blt k 260 then ⟨"SingleTrackLineLaw", "isExpected", "(LSingleTrackLine;I[J)I"⟩ else ⟨"SingleTrackLineLaw", "isHeld", "(LSingleTrackLine;I[J)I"⟩) else (bif Nat.blt k 262 then ⟨"SingleTrackLineLaw", "stationOf", "(LSingleTrackLine;I[J)I"⟩ else (bif Nat.blt k 263 then ⟨"SingleTrackLineLaw", "sectionOf", "(LSingleTrackLine;I[J)I"⟩ else ⟨"SingleTrackLineLaw", "remainingTime", "(LSingleTrackLine;I[J)I"⟩))))) else (bif Nat.blt k 273 then (bif Nat.blt k 268 then (bif Nat.blt k 266 then (bif Nat.blt k 265 then ⟨"SingleTrackLineLaw", "waitedMinutes", "(LSingleTrackLine;I[J)I"⟩ else ⟨"SingleTrackLineLaw", "plannedArrival", "(LSingleTrackLine;I[J)I"⟩) else (bif Nat.blt k 267 then ⟨"SingleTrackLineLaw", "arrivalAlone", "(LSingleTrackLine;I[J)I"⟩ else ⟨"SingleTrackLineLaw", "predictedArrival", "(LSingleTrackLine;I[J)I"⟩)) else (bif Nat.blt k 270 then (bif Nat.blt k 269 then ⟨"SingleTrackLineLaw", "trainAtRank", "(LSingleTrackLine;I[J)I"⟩ else ⟨"SingleTrackLineLaw", "lastFinished", "(LSingleTrackLine;[J)I"⟩) else (bif Nat.blt k 271 then ⟨"SingleTrackLineLaw", "greatestDelay", "(LSingleTrackLine;[J)I"⟩ else (bif Nat.blt k 272 then ⟨"SingleTrackLineLaw", "meanDelay", "(LSingleTrackLine;[D)I"⟩ else ⟨"SingleTrackLineLaw", "punctualShare", "(LSingleTrackLine;[D)I"⟩)))) else (bif Nat.blt k 277 then (bif Nat.blt k 275 then (bif Nat.blt k 274 then ⟨"SingleTrackLineLaw", "append", "(LSingleTrackLine;C[J)I"⟩ else ⟨"SingleTrackLineLaw", "run", "(LSingleTrackLine;[J)I"⟩) else (bif Nat.blt k 276 then ⟨"SingleTrackLineLaw", "errorPosition", "(LSingleTrackLine;[J)I"⟩ else ⟨"SingleTrackLineLaw", "failedCommand", "(LSingleTrackLine;[J)I"⟩)) else (bif Nat.blt k 279 then (bif Nat.blt k 278 then ⟨"SingleTrackLineLaw", "writeTrain", "(LSingleTrackLine;I[J)I"⟩ else ⟨"SingleTrackLineLaw", "outputAt", "(LSingleTrackLine;I[J)I"⟩) else (bif Nat.blt k 280 then ⟨"SingleTrackLineLaw", "undo", "(LSingleTrackLine;[J)I"⟩ else (bif Nat.blt k 281 then ⟨"SingleTrackLineLaw", "restore", "(LSingleTrackLine;)I"⟩ else ⟨"SingleTrackLineLaw", "law", "([I)Z"⟩)))))))))
def mbytes (k : Nat) : ByteArray := (bif Nat.blt k 141 then (bif Nat.blt k 70 then (bif Nat.blt k 35 then (bif Nat.blt k 17 then (bif Nat.blt k 8 then (bif Nat.blt k 4 then (bif Nat.blt k 2 then (bif Nat.blt k 1 then prog_12_method_2_code else prog_12_method_9_code) else (bif Nat.blt k 3 then prog_12_method_10_code else prog_12_method_13_code)) else (bif Nat.blt k 6 then (bif Nat.blt k 5 then prog_12_method_14_code else prog_12_method_31_code) else (bif Nat.blt k 7 then prog_12_method_32_code else prog_12_method_68_code))) else (bif Nat.blt k 12 then (bif Nat.blt k 10 then (bif Nat.blt k 9 then prog_12_method_6_code else prog_19_method_2_code) else (bif Nat.blt k 11 then prog_24_method_12_code else prog_24_method_13_code)) else (bif Nat.blt k 14 then (bif Nat.blt k 13 then prog_25_method_50_code else prog_28_method_54_code) else (bif Nat.blt k 15 then prog_28_method_56_code else (bif Nat.blt k 16 then prog_28_method_152_code else prog_28_method_154_code))))) else (bif Nat.blt k 26 then (bif Nat.blt k 21 then (bif Nat.blt k 19 then (bif Nat.blt k 18 then prog_28_method_155_code else prog_29_method_1_code) else (bif Nat.blt k 20 then prog_29_method_14_code else prog_29_method_15_code)) else (bif Nat.blt k 23 then (bif Nat.blt k 22 then prog_29_method_88_code else prog_29_method_89_code) else (bif Nat.blt k 24 then prog_29_method_93_code else (bif Nat.blt k 25 then prog_31_method_2_code else prog_31_method_3_code)))) else (bif Nat.blt k 30 then (bif Nat.blt k 28 then (bif Nat.blt k 27 then prog_38_method_121_code else prog_41_method_11_code) else (bif Nat.blt k 29 then prog_40_method_27_code else prog_4_method_1_code)) else (bif Nat.blt k 32 then (bif Nat.blt k 31 then prog_4_method_2_code else prog_4_method_3_code) else (bif Nat.blt k 33 then prog_4_method_4_code else (bif Nat.blt k 34 then prog_4_method_5_code else prog_5_method_1_code)))))) else (bif Nat.blt k 52 then (bif Nat.blt k 43 then (bif Nat.blt k 39 then (bif Nat.blt k 37 then (bif Nat.blt k 36 then prog_5_method_2_code else prog_5_method_3_code) else (bif Nat.blt k 38 then prog_5_method_4_code else prog_5_method_5_code)) else (bif Nat.blt k 41 then (bif Nat.blt k 40 then prog_5_method_6_code else prog_5_method_7_code) else (bif Nat.blt k 42 then prog_5_method_8_code else prog_5_method_9_code))) else (bif Nat.blt k 47 then (bif Nat.blt k 45 then (bif Nat.blt k 44 then prog_5_method_10_code else prog_5_method_11_code) else (bif Nat.blt k 46 then prog_5_method_12_code else prog_5_method_13_code)) else (bif Nat.blt k 49 then (bif Nat.blt k 48 then prog_5_method_14_code else prog_5_method_15_code) else (bif Nat.blt k 50 then prog_5_method_16_code else (bif Nat.blt k 51 then prog_5_method_17_code else prog_5_method_18_code))))) else (bif Nat.blt k 61 then (bif Nat.blt k 56 then (bif Nat.blt k 54 then (bif Nat.blt k 53 then prog_5_method_19_code else prog_5_method_20_code) else (bif Nat.blt k 55 then prog_5_method_21_code else prog_5_method_22_code)) else (bif Nat.blt k 58 then (bif Nat.blt k 57 then prog_5_method_23_code else prog_5_method_24_code) else (bif Nat.blt k 59 then prog_5_method_25_code else (bif Nat.blt k 60 then prog_5_method_26_code else prog_5_method_27_code)))) else (bif Nat.blt k 65 then (bif Nat.blt k 63 then (bif Nat.blt k 62 then prog_5_method_28_code else prog_5_method_29_code) else (bif Nat.blt k 64 then prog_5_method_30_code else prog_5_method_31_code)) else (bif Nat.blt k 67 then (bif Nat.blt k 66 then prog_5_method_32_code else prog_5_method_33_code) else (bif Nat.blt k 68 then prog_5_method_34_code else (bif Nat.blt k 69 then prog_7_method_1_code else prog_7_method_2_code))))))) else (bif Nat.blt k 105 then (bif Nat.blt k 87 then (bif Nat.blt k 78 then (bif Nat.blt k 74 then (bif Nat.blt k 72 then (bif Nat.blt k 71 then prog_7_method_3_code else prog_7_method_4_code) else (bif Nat.blt k 73 then prog_7_method_5_code else prog_7_method_6_code)) else (bif Nat.blt k 76 then (bif Nat.blt k 75 then prog_7_method_7_code else prog_7_method_8_code) else (bif Nat.blt k 77 then prog_7_method_9_code else prog_7_method_10_code))) else (bif Nat.blt k 82 then (bif Nat.blt k 80 then (bif Nat.blt k 79 then prog_7_method_11_code else prog_7_method_12_code) else (bif Nat.blt k 81 then prog_7_method_13_code else prog_8_method_1_code)) else (bif Nat.blt k 84 then (bif Nat.blt k 83 then prog_8_method_2_code else prog_8_method_3_code) else (bif Nat.blt k 85 then prog_8_method_4_code else (bif Nat.blt k 86 then prog_8_method_5_code else prog_8_method_6_code))))) else (bif Nat.blt k 96 then (bif Nat.blt k 91 then (bif Nat.blt k 89 then (bif Nat.blt k 88 then prog_8_method_7_code else prog_8_method_8_code) else (bif Nat.blt k 90 then prog_8_method_9_code else prog_1_method_1_code)) else (bif Nat.blt k 93 then (bif Nat.blt k 92 then prog_1_method_2_code else prog_1_method_3_code) else (bif Nat.blt k 94 then prog_1_method_4_code else (bif Nat.blt k 95 then prog_1_method_5_code else prog_1_method_6_code)))) else (bif Nat.blt k 100 then (bif Nat.blt k 98 then (bif Nat.blt k 97 then prog_1_method_7_code else prog_1_method_8_code) else (bif Nat.blt k 99 then prog_1_method_9_code else prog_1_method_10_code)) else (bif Nat.blt k 102 then (bif Nat.blt k 101 then prog_1_method_11_code else prog_1_method_12_code) else (bif Nat.blt k 103 then prog_1_method_13_code else (bif Nat.blt k 104 then prog_1_method_14_code else prog_1_method_15_code)))))) else (bif Nat.blt k 123 then (bif Nat.blt k 114 then (bif Nat.blt k 109 then (bif Nat.blt k 107 then (bif Nat.blt k 106 then prog_1_method_16_code else prog_1_method_17_code) else (bif Nat.blt k 108 then prog_1_method_18_code else prog_1_method_19_code)) else (bif Nat.blt k 111 then (bif Nat.blt k 110 then prog_1_method_20_code else prog_1_method_21_code) else (bif Nat.blt k 112 then prog_1_method_22_code else (bif Nat.blt k 113 then prog_1_method_23_code else prog_1_method_24_code)))) else (bif Nat.blt k 118 then (bif Nat.blt k 116 then (bif Nat.blt k 115 then prog_1_method_25_code else prog_1_method_26_code) else (bif Nat.blt k 117 then prog_1_method_27_code else prog_1_method_28_code)) else (bif Nat.blt k 120 then (bif Nat.blt k 119 then prog_1_method_29_code else prog_1_method_30_code) else (bif Nat.blt k 121 then prog_1_method_31_code else (bif Nat.blt k 122 then prog_1_method_32_code else prog_1_method_33_code))))) else (bif Nat.blt k 132 then (bif Nat.blt k 127 then (bif Nat.blt k 125 then (bif Nat.blt k 124 then prog_1_method_34_code else prog_1_method_35_code) else (bif Nat.blt k 126 then prog_1_method_36_code else prog_1_method_37_code)) else (bif Nat.blt k 129 then (bif Nat.blt k 128 then prog_1_method_38_code else prog_1_method_39_code) else (bif Nat.blt k 130 then prog_1_method_40_code else (bif Nat.blt k 131 then prog_1_method_41_code else prog_1_method_42_code)))) else (bif Nat.blt k 136 then (bif Nat.blt k 134 then (bif Nat.blt k 133 then prog_1_method_43_code else prog_1_method_44_code) else (bif Nat.blt k 135 then prog_1_method_45_code else prog_1_method_46_code)) else (bif Nat.blt k 138 then (bif Nat.blt k 137 then prog_1_method_47_code else prog_1_method_48_code) else (bif Nat.blt k 139 then prog_1_method_49_code else (bif Nat.blt k 140 then prog_1_method_50_code else prog_1_method_51_code)))))))) else (bif Nat.blt k 211 then (bif Nat.blt k 176 then (bif Nat.blt k 158 then (bif Nat.blt k 149 then (bif Nat.blt k 145 then (bif Nat.blt k 143 then (bif Nat.blt k 142 then prog_1_method_52_code else prog_1_method_53_code) else (bif Nat.blt k 144 then prog_1_method_54_code else prog_1_method_55_code)) else (bif Nat.blt k 147 then (bif Nat.blt k 146 then prog_1_method_56_code else prog_1_method_57_code) else (bif Nat.blt k 148 then prog_1_method_58_code else prog_10_method_1_code))) else (bif Nat.blt k 153 then (bif Nat.blt k 151 then (bif Nat.blt k 150 then prog_10_method_2_code else prog_10_method_3_code) else (bif Nat.blt k 152 then prog_10_method_4_code else prog_10_method_5_code)) else (bif Nat.blt k 155 then (bif Nat.blt k 154 then prog_10_method_6_code else prog_10_method_7_code) else (bif Nat.blt k 156 then prog_10_method_8_code else (bif Nat.blt k 157 then prog_10_method_9_code else prog_10_method_10_code))))) else (bif Nat.blt k 167 then (bif Nat.blt k 162 then (bif Nat.blt k 160 then (bif Nat.blt k 159 then prog_10_method_11_code else prog_10_method_12_code) else (bif Nat.blt k 161 then prog_10_method_13_code else prog_10_method_14_code)) else (bif Nat.blt k 164 then (bif Nat.blt k 163 then prog_10_method_15_code else prog_10_method_16_code) else (bif Nat.blt k 165 then prog_10_method_17_code else (bif Nat.blt k 166 then prog_10_method_18_code else prog_10_method_19_code)))) else (bif Nat.blt k 171 then (bif Nat.blt k 169 then (bif Nat.blt k 168 then prog_10_method_20_code else prog_10_method_21_code) else (bif Nat.blt k 170 then prog_10_method_22_code else prog_10_method_23_code)) else (bif Nat.blt k 173 then (bif Nat.blt k 172 then prog_10_method_24_code else prog_10_method_25_code) else (bif Nat.blt k 174 then prog_10_method_26_code else (bif Nat.blt k 175 then prog_10_method_27_code else prog_10_method_28_code)))))) else (bif Nat.blt k 193 then (bif Nat.blt k 184 then (bif Nat.blt k 180 then (bif Nat.blt k 178 then (bif Nat.blt k 177 then prog_10_method_29_code else prog_10_method_30_code) else (bif Nat.blt k 179 then prog_10_method_31_code else prog_10_method_32_code)) else (bif Nat.blt k 182 then (bif Nat.blt k 181 then prog_10_method_33_code else prog_10_method_34_code) else (bif Nat.blt k 183 then prog_10_method_35_code else prog_10_method_36_code))) else (bif Nat.blt k 188 then (bif Nat.blt k 186 then (bif Nat.blt k 185 then prog_10_method_37_code else prog_10_method_38_code) else (bif Nat.blt k 187 then prog_10_method_39_code else prog_10_method_40_code)) else (bif Nat.blt k 190 then (bif Nat.blt k 189 then prog_10_method_41_code else prog_10_method_42_code) else (bif Nat.blt k 191 then prog_10_method_43_code else (bif Nat.blt k 192 then prog_10_method_44_code else prog_10_method_45_code))))) else (bif Nat.blt k 202 then (bif Nat.blt k 197 then (bif Nat.blt k 195 then (bif Nat.blt k 194 then prog_10_method_46_code else prog_10_method_47_code) else (bif Nat.blt k 196 then prog_10_method_48_code else prog_10_method_49_code)) else (bif Nat.blt k 199 then (bif Nat.blt k 198 then prog_10_method_50_code else prog_10_method_51_code) else (bif Nat.blt k 200 then prog_10_method_52_code else (bif Nat.blt k 201 then prog_10_method_53_code else prog_10_method_54_code)))) else (bif Nat.blt k 206 then (bif Nat.blt k 204 then (bif Nat.blt k 203 then prog_10_method_55_code else prog_10_method_56_code) else (bif Nat.blt k 205 then prog_10_method_57_code else prog_10_method_58_code)) else (bif Nat.blt k 208 then (bif Nat.blt k 207 then prog_10_method_59_code else prog_10_method_60_code) else (bif Nat.blt k 209 then prog_10_method_61_code else (bif Nat.blt k 210 then prog_10_method_62_code else prog_10_method_63_code))))))) else (bif Nat.blt k 246 then (bif Nat.blt k 228 then (bif Nat.blt k 219 then (bif Nat.blt k 215 then (bif Nat.blt k 213 then (bif Nat.blt k 212 then prog_10_method_64_code else prog_10_method_65_code) else (bif Nat.blt k 214 then prog_10_method_66_code else prog_10_method_67_code)) else (bif Nat.blt k 217 then (bif Nat.blt k 216 then prog_10_method_68_code else prog_10_method_69_code) else (bif Nat.blt k 218 then prog_10_method_70_code else prog_10_method_71_code))) else (bif Nat.blt k 223 then (bif Nat.blt k 221 then (bif Nat.blt k 220 then prog_10_method_72_code else prog_10_method_73_code) else (bif Nat.blt k 222 then prog_10_method_74_code else prog_10_method_75_code)) else (bif Nat.blt k 225 then (bif Nat.blt k 224 then prog_10_method_76_code else prog_10_method_77_code) else (bif Nat.blt k 226 then prog_10_method_78_code else (bif Nat.blt k 227 then prog_10_method_79_code else prog_10_method_80_code))))) else (bif Nat.blt k 237 then (bif Nat.blt k 232 then (bif Nat.blt k 230 then (bif Nat.blt k 229 then prog_10_method_81_code else prog_10_method_82_code) else (bif Nat.blt k 231 then prog_10_method_83_code else prog_10_method_84_code)) else (bif Nat.blt k 234 then (bif Nat.blt k 233 then prog_10_method_85_code else prog_10_method_86_code) else (bif Nat.blt k 235 then prog_10_method_87_code else (bif Nat.blt k 236 then prog_10_method_88_code else prog_10_method_89_code)))) else (bif Nat.blt k 241 then (bif Nat.blt k 239 then (bif Nat.blt k 238 then prog_10_method_90_code else prog_10_method_91_code) else (bif Nat.blt k 240 then prog_10_method_92_code else prog_10_method_93_code)) else (bif Nat.blt k 243 then (bif Nat.blt k 242 then prog_10_method_94_code else prog_10_method_95_code) else (bif Nat.blt k 244 then prog_10_method_96_code else (bif Nat.blt k 245 then method_3_code else method_4_code)))))) else (bif Nat.blt k 264 then (bif Nat.blt k 255 then (bif Nat.blt k 250 then (bif Nat.blt k 248 then (bif Nat.blt k 247 then method_5_code else method_6_code) else (bif Nat.blt k 249 then method_7_code else method_8_code)) else (bif Nat.blt k 252 then (bif Nat.blt k 251 then method_9_code else method_10_code) else (bif Nat.blt k 253 then method_11_code else (bif Nat.blt k 254 then method_12_code else method_13_code)))) else (bif Nat.blt k 259 then (bif Nat.blt k 257 then (bif Nat.blt k 256 then method_14_code else method_15_code) else (bif Nat.blt k 258 then method_16_code else method_17_code)) else (bif Nat.blt k 261 then (bif Nat.blt k 260 then method_18_code else method_19_code) else (bif Nat.blt k 262 then method_20_code else (bif Nat.blt k 263 then method_21_code else method_22_code))))) else (bif Nat.blt k 273 then (bif Nat.blt k 268 then (bif Nat.blt k 266 then (bif Nat.blt k 265 then method_23_code else method_24_code) else (bif Nat.blt k 267 then method_25_code else method_26_code)) else (bif Nat.blt k 270 then (bif Nat.blt k 269 then method_27_code else method_28_code) else (bif Nat.blt k 271 then method_29_code else (bif Nat.blt k 272 then method_30_code else method_31_code)))) else (bif Nat.blt k 277 then (bif Nat.blt k 275 then (bif Nat.blt k 274 then method_32_code else method_33_code) else (bif Nat.blt k 276 then method_34_code else method_35_code)) else (bif Nat.blt k 279 then (bif Nat.blt k 278 then method_36_code else method_37_code) else (bif Nat.blt k 280 then method_38_code else (bif Nat.blt k 281 then method_39_code else code)))))))))
def mmax (k : Nat) : Nat := (bif Nat.blt k 141 then (bif Nat.blt k 70 then (bif Nat.blt k 35 then (bif Nat.blt k 17 then (bif Nat.blt k 8 then (bif Nat.blt k 4 then (bif Nat.blt k 2 then (bif Nat.blt k 1 then 2 else 3) else (bif Nat.blt k 3 then 6 else 2)) else (bif Nat.blt k 6 then (bif Nat.blt k 5 then 5 else 2) else (bif Nat.blt k 7 then 4 else 1))) else (bif Nat.blt k 12 then (bif Nat.blt k 10 then (bif Nat.blt k 9 then 1 else 1) else (bif Nat.blt k 11 then 7 else 4)) else (bif Nat.blt k 14 then (bif Nat.blt k 13 then 3 else 1) else (bif Nat.blt k 15 then 2 else (bif Nat.blt k 16 then 1 else 1))))) else (bif Nat.blt k 26 then (bif Nat.blt k 21 then (bif Nat.blt k 19 then (bif Nat.blt k 18 then 2 else 1) else (bif Nat.blt k 20 then 2 else 2)) else (bif Nat.blt k 23 then (bif Nat.blt k 22 then 2 else 2) else (bif Nat.blt k 24 then 1 else (bif Nat.blt k 25 then 2 else 1)))) else (bif Nat.blt k 30 then (bif Nat.blt k 28 then (bif Nat.blt k 27 then 3 else 3) else (bif Nat.blt k 29 then 4 else 2)) else (bif Nat.blt k 32 then (bif Nat.blt k 31 then 2 else 1) else (bif Nat.blt k 33 then 1 else (bif Nat.blt k 34 then 1 else 2)))))) else (bif Nat.blt k 52 then (bif Nat.blt k 43 then (bif Nat.blt k 39 then (bif Nat.blt k 37 then (bif Nat.blt k 36 then 3 else 5) else (bif Nat.blt k 38 then 4 else 4)) else (bif Nat.blt k 41 then (bif Nat.blt k 40 then 5 else 9) else (bif Nat.blt k 42 then 3 else 4))) else (bif Nat.blt k 47 then (bif Nat.blt k 45 then (bif Nat.blt k 44 then 5 else 1) else (bif Nat.blt k 46 then 3 else 3)) else (bif Nat.blt k 49 then (bif Nat.blt k 48 then 5 else 3) else (bif Nat.blt k 50 then 5 else (bif Nat.blt k 51 then 8 else 7))))) else (bif Nat.blt k 61 then (bif Nat.blt k 56 then (bif Nat.blt k 54 then (bif Nat.blt k 53 then 3 else 2) else (bif Nat.blt k 55 then 6 else 2)) else (bif Nat.blt k 58 then (bif Nat.blt k 57 then 2 else 1) else (bif Nat.blt k 59 then 6 else (bif Nat.blt k 60 then 6 else 9)))) else (bif Nat.blt k 65 then (bif Nat.blt k 63 then (bif Nat.blt k 62 then 5 else 3) else (bif Nat.blt k 64 then 2 else 7)) else (bif Nat.blt k 67 then (bif Nat.blt k 66 then 2 else 5) else (bif Nat.blt k 68 then 3 else (bif Nat.blt k 69 then 1 else 1))))))) else (bif Nat.blt k 105 then (bif Nat.blt k 87 then (bif Nat.blt k 78 then (bif Nat.blt k 74 then (bif Nat.blt k 72 then (bif Nat.blt k 71 then 2 else 1) else (bif Nat.blt k 73 then 1 else 2)) else (bif Nat.blt k 76 then (bif Nat.blt k 75 then 1 else 7) else (bif Nat.blt k 77 then 3 else 2))) else (bif Nat.blt k 82 then (bif Nat.blt k 80 then (bif Nat.blt k 79 then 4 else 1) else (bif Nat.blt k 81 then 2 else 1)) else (bif Nat.blt k 84 then (bif Nat.blt k 83 then 1 else 2) else (bif Nat.blt k 85 then 1 else (bif Nat.blt k 86 then 3 else 4))))) else (bif Nat.blt k 96 then (bif Nat.blt k 91 then (bif Nat.blt k 89 then (bif Nat.blt k 88 then 2 else 2) else (bif Nat.blt k 90 then 2 else 1)) else (bif Nat.blt k 93 then (bif Nat.blt k 92 then 3 else 3) else (bif Nat.blt k 94 then 4 else (bif Nat.blt k 95 then 2 else 2)))) else (bif Nat.blt k 100 then (bif Nat.blt k 98 then (bif Nat.blt k 97 then 2 else 2) else (bif Nat.blt k 99 then 6 else 1)) else (bif Nat.blt k 102 then (bif Nat.blt k 101 then 1 else 2) else (bif Nat.blt k 103 then 2 else (bif Nat.blt k 104 then 7 else 2)))))) else (bif Nat.blt k 123 then (bif Nat.blt k 114 then (bif Nat.blt k 109 then (bif Nat.blt k 107 then (bif Nat.blt k 106 then 2 else 3) else (bif Nat.blt k 108 then 3 else 3)) else (bif Nat.blt k 111 then (bif Nat.blt k 110 then 2 else 2) else (bif Nat.blt k 112 then 1 else (bif Nat.blt k 113 then 2 else 2)))) else (bif Nat.blt k 118 then (bif Nat.blt k 116 then (bif Nat.blt k 115 then 2 else 3) else (bif Nat.blt k 117 then 2 else 2)) else (bif Nat.blt k 120 then (bif Nat.blt k 119 then 2 else 2) else (bif Nat.blt k 121 then 3 else (bif Nat.blt k 122 then 3 else 1))))) else (bif Nat.blt k 132 then (bif Nat.blt k 127 then (bif Nat.blt k 125 then (bif Nat.blt k 124 then 6 else 3) else (bif Nat.blt k 126 then 3 else 1)) else (bif Nat.blt k 129 then (bif Nat.blt k 128 then 1 else 1) else (bif Nat.blt k 130 then 1 else (bif Nat.blt k 131 then 1 else 1)))) else (bif Nat.blt k 136 then (bif Nat.blt k 134 then (bif Nat.blt k 133 then 1 else 1) else (bif Nat.blt k 135 then 1 else 2)) else (bif Nat.blt k 138 then (bif Nat.blt k 137 then 4 else 1) else (bif Nat.blt k 139 then 1 else (bif Nat.blt k 140 then 2 else 2)))))))) else (bif Nat.blt k 211 then (bif Nat.blt k 176 then (bif Nat.blt k 158 then (bif Nat.blt k 149 then (bif Nat.blt k 145 then (bif Nat.blt k 143 then (bif Nat.blt k 142 then 3 else 2) else (bif Nat.blt k 144 then 7 else 3)) else (bif Nat.blt k 147 then (bif Nat.blt k 146 then 1 else 1) else (bif Nat.blt k 148 then 1 else 1))) else (bif Nat.blt k 153 then (bif Nat.blt k 151 then (bif Nat.blt k 150 then 1 else 2) else (bif Nat.blt k 152 then 6 else 2)) else (bif Nat.blt k 155 then (bif Nat.blt k 154 then 3 else 1) else (bif Nat.blt k 156 then 2 else (bif Nat.blt k 157 then 2 else 3))))) else (bif Nat.blt k 167 then (bif Nat.blt k 162 then (bif Nat.blt k 160 then (bif Nat.blt k 159 then 2 else 2) else (bif Nat.blt k 161 then 3 else 4)) else (bif Nat.blt k 164 then (bif Nat.blt k 163 then 5 else 2) else (bif Nat.blt k 165 then 5 else (bif Nat.blt k 166 then 4 else 3)))) else (bif Nat.blt k 171 then (bif Nat.blt k 169 then (bif Nat.blt k 168 then 3 else 3) else (bif Nat.blt k 170 then 4 else 3)) else (bif Nat.blt k 173 then (bif Nat.blt k 172 then 5 else 4) else (bif Nat.blt k 174 then 3 else (bif Nat.blt k 175 then 4 else 2)))))) else (bif Nat.blt k 193 then (bif Nat.blt k 184 then (bif Nat.blt k 180 then (bif Nat.blt k 178 then (bif Nat.blt k 177 then 2 else 3) else (bif Nat.blt k 179 then 2 else 4)) else (bif Nat.blt k 182 then (bif Nat.blt k 181 then 3 else 3) else (bif Nat.blt k 183 then 4 else 3))) else (bif Nat.blt k 188 then (bif Nat.blt k 186 then (bif Nat.blt k 185 then 5 else 6) else (bif Nat.blt k 187 then 4 else 4)) else (bif Nat.blt k 190 then (bif Nat.blt k 189 then 2 else 2) else (bif Nat.blt k 191 then 1 else (bif Nat.blt k 192 then 2 else 2))))) else (bif Nat.blt k 202 then (bif Nat.blt k 197 then (bif Nat.blt k 195 then (bif Nat.blt k 194 then 2 else 2) else (bif Nat.blt k 196 then 2 else 2)) else (bif Nat.blt k 199 then (bif Nat.blt k 198 then 3 else 3) else (bif Nat.blt k 200 then 1 else (bif Nat.blt k 201 then 2 else 3)))) else (bif Nat.blt k 206 then (bif Nat.blt k 204 then (bif Nat.blt k 203 then 2 else 2) else (bif Nat.blt k 205 then 5 else 2)) else (bif Nat.blt k 208 then (bif Nat.blt k 207 then 2 else 2) else (bif Nat.blt k 209 then 2 else (bif Nat.blt k 210 then 2 else 3))))))) else (bif Nat.blt k 246 then (bif Nat.blt k 228 then (bif Nat.blt k 219 then (bif Nat.blt k 215 then (bif Nat.blt k 213 then (bif Nat.blt k 212 then 2 else 2) else (bif Nat.blt k 214 then 5 else 2)) else (bif Nat.blt k 217 then (bif Nat.blt k 216 then 6 else 1) else (bif Nat.blt k 218 then 1 else 1))) else (bif Nat.blt k 223 then (bif Nat.blt k 221 then (bif Nat.blt k 220 then 1 else 1) else (bif Nat.blt k 222 then 1 else 1)) else (bif Nat.blt k 225 then (bif Nat.blt k 224 then 1 else 2) else (bif Nat.blt k 226 then 1 else (bif Nat.blt k 227 then 2 else 2))))) else (bif Nat.blt k 237 then (bif Nat.blt k 232 then (bif Nat.blt k 230 then (bif Nat.blt k 229 then 2 else 4) else (bif Nat.blt k 231 then 3 else 4)) else (bif Nat.blt k 234 then (bif Nat.blt k 233 then 4 else 4) else (bif Nat.blt k 235 then 1 else (bif Nat.blt k 236 then 1 else 2)))) else (bif Nat.blt k 241 then (bif Nat.blt k 239 then (bif Nat.blt k 238 then 3 else 4) else (bif Nat.blt k 240 then 3 else 2)) else (bif Nat.blt k 243 then (bif Nat.blt k 242 then 2 else 2) else (bif Nat.blt k 244 then 2 else (bif Nat.blt k 245 then 5 else 5)))))) else (bif Nat.blt k 264 then (bif Nat.blt k 255 then (bif Nat.blt k 250 then (bif Nat.blt k 248 then (bif Nat.blt k 247 then 6 else 4) else (bif Nat.blt k 249 then 4 else 4)) else (bif Nat.blt k 252 then (bif Nat.blt k 251 then 4 else 4) else (bif Nat.blt k 253 then 4 else (bif Nat.blt k 254 then 4 else 4)))) else (bif Nat.blt k 259 then (bif Nat.blt k 257 then (bif Nat.blt k 256 then 4 else 4) else (bif Nat.blt k 258 then 5 else 5)) else (bif Nat.blt k 261 then (bif Nat.blt k 260 then 4 else 4) else (bif Nat.blt k 262 then 4 else (bif Nat.blt k 263 then 4 else 4))))) else (bif Nat.blt k 273 then (bif Nat.blt k 268 then (bif Nat.blt k 266 then (bif Nat.blt k 265 then 4 else 4) else (bif Nat.blt k 267 then 4 else 4)) else (bif Nat.blt k 270 then (bif Nat.blt k 269 then 4 else 3) else (bif Nat.blt k 271 then 3 else (bif Nat.blt k 272 then 3 else 3)))) else (bif Nat.blt k 277 then (bif Nat.blt k 275 then (bif Nat.blt k 274 then 4 else 3) else (bif Nat.blt k 276 then 3 else 3)) else (bif Nat.blt k 279 then (bif Nat.blt k 278 then 4 else 4) else (bif Nat.blt k 280 then 3 else (bif Nat.blt k 281 then 2 else 9)))))))))
def mret (k : Nat) : Option FieldType := (bif Nat.blt k 141 then (bif Nat.blt k 70 then (bif Nat.blt k 35 then (bif Nat.blt k 17 then (bif Nat.blt k 8 then (bif Nat.blt k 4 then (bif Nat.blt k 2 then (bif Nat.blt k 1 then (Option.none : Option FieldType) else (Option.none : Option FieldType)) else (bif Nat.blt k 3 then (Option.some FieldType.int) else (Option.none : Option FieldType))) else (bif Nat.blt k 6 then (bif Nat.blt k 5 then (Option.some FieldType.char) else (Option.some (FieldType.object "java/lang/AbstractStringBuilder"))) else (bif Nat.blt k 7 then (Option.some (FieldType.object "java/lang/AbstractStringBuilder")) else (Option.some FieldType.boolean)))) else (bif Nat.blt k 12 then (bif Nat.blt k 10 then (bif Nat.blt k 9 then (Option.some FieldType.int) else (Option.some FieldType.int)) else (bif Nat.blt k 11 then (Option.some FieldType.int) else (Option.some FieldType.int))) else (bif Nat.blt k 14 then (bif Nat.blt k 13 then (Option.some FieldType.int) else (Option.some FieldType.int)) else (bif Nat.blt k 15 then (Option.some FieldType.char) else (bif Nat.blt k 16 then (Option.some FieldType.byte) else (Option.some FieldType.boolean)))))) else (bif Nat.blt k 26 then (bif Nat.blt k 21 then (bif Nat.blt k 19 then (bif Nat.blt k 18 then (Option.none : Option FieldType) else (Option.none : Option FieldType)) else (bif Nat.blt k 20 then (Option.some (FieldType.object "java/lang/StringBuilder")) else (Option.some (FieldType.object "java/lang/StringBuilder")))) else (bif Nat.blt k 23 then (bif Nat.blt k 22 then (Option.some FieldType.char) else (Option.none : Option FieldType)) else (bif Nat.blt k 24 then (Option.some FieldType.int) else (bif Nat.blt k 25 then (Option.some FieldType.char) else (Option.some FieldType.boolean))))) else (bif Nat.blt k 30 then (bif Nat.blt k 28 then (bif Nat.blt k 27 then (Option.some (FieldType.array FieldType.byte)) else (Option.some FieldType.int)) else (bif Nat.blt k 29 then (Option.some FieldType.int) else (Option.none : Option FieldType))) else (bif Nat.blt k 32 then (bif Nat.blt k 31 then (Option.none : Option FieldType) else (Option.some (FieldType.object "SingleTrackLine$Line"))) else (bif Nat.blt k 33 then (Option.none : Option FieldType) else (bif Nat.blt k 34 then (Option.some (FieldType.object "SingleTrackLine$Line")) else (Option.none : Option FieldType))))))) else (bif Nat.blt k 52 then (bif Nat.blt k 43 then (bif Nat.blt k 39 then (bif Nat.blt k 37 then (bif Nat.blt k 36 then (Option.none : Option FieldType) else (Option.some FieldType.int)) else (bif Nat.blt k 38 then (Option.some FieldType.int) else (Option.some FieldType.int))) else (bif Nat.blt k 41 then (bif Nat.blt k 40 then (Option.some FieldType.int) else (Option.some FieldType.int)) else (bif Nat.blt k 42 then (Option.some FieldType.int) else (Option.some FieldType.int)))) else (bif Nat.blt k 47 then (bif Nat.blt k 45 then (bif Nat.blt k 44 then (Option.none : Option FieldType) else (Option.none : Option FieldType)) else (bif Nat.blt k 46 then (Option.none : Option FieldType) else (Option.none : Option FieldType))) else (bif Nat.blt k 49 then (bif Nat.blt k 48 then (Option.none : Option FieldType) else (Option.none : Option FieldType)) else (bif Nat.blt k 50 then (Option.none : Option FieldType) else (bif Nat.blt k 51 then (Option.some (FieldType.object "SingleTrackLine$Train")) else (Option.none : Option FieldType)))))) else (bif Nat.blt k 61 then (bif Nat.blt k 56 then (bif Nat.blt k 54 then (bif Nat.blt k 53 then (Option.some FieldType.int) else (Option.some FieldType.int)) else (bif Nat.blt k 55 then (Option.some FieldType.boolean) else (Option.some FieldType.boolean))) else (bif Nat.blt k 58 then (bif Nat.blt k 57 then (Option.some FieldType.boolean) else (Option.some FieldType.boolean)) else (bif Nat.blt k 59 then (Option.some (FieldType.object "SingleTrackLine$Train")) else (bif Nat.blt k 60 then (Option.some (FieldType.object "SingleTrackLine$Train")) else (Option.some FieldType.int))))) else (bif Nat.blt k 65 then (bif Nat.blt k 63 then (bif Nat.blt k 62 then (Option.some FieldType.int) else (Option.some FieldType.int)) else (bif Nat.blt k 64 then (Option.some FieldType.boolean) else (Option.some FieldType.int))) else (bif Nat.blt k 67 then (bif Nat.blt k 66 then (Option.some FieldType.boolean) else (Option.some FieldType.boolean)) else (bif Nat.blt k 68 then (Option.some FieldType.boolean) else (bif Nat.blt k 69 then (Option.none : Option FieldType) else (Option.some FieldType.boolean)))))))) else (bif Nat.blt k 105 then (bif Nat.blt k 87 then (bif Nat.blt k 78 then (bif Nat.blt k 74 then (bif Nat.blt k 72 then (bif Nat.blt k 71 then (Option.some FieldType.int) else (Option.none : Option FieldType)) else (bif Nat.blt k 73 then (Option.none : Option FieldType) else (Option.some FieldType.int))) else (bif Nat.blt k 76 then (bif Nat.blt k 75 then (Option.none : Option FieldType) else (Option.some FieldType.boolean)) else (bif Nat.blt k 77 then (Option.some FieldType.boolean) else (Option.some FieldType.boolean)))) else (bif Nat.blt k 82 then (bif Nat.blt k 80 then (bif Nat.blt k 79 then (Option.some FieldType.boolean) else (Option.some FieldType.boolean)) else (bif Nat.blt k 81 then (Option.some FieldType.boolean) else (Option.none : Option FieldType))) else (bif Nat.blt k 84 then (bif Nat.blt k 83 then (Option.some FieldType.boolean) else (Option.some FieldType.boolean)) else (bif Nat.blt k 85 then (Option.some FieldType.int) else (bif Nat.blt k 86 then (Option.none : Option FieldType) else (Option.none : Option FieldType)))))) else (bif Nat.blt k 96 then (bif Nat.blt k 91 then (bif Nat.blt k 89 then (bif Nat.blt k 88 then (Option.some FieldType.boolean) else (Option.some FieldType.boolean)) else (bif Nat.blt k 90 then (Option.none : Option FieldType) else (Option.none : Option FieldType))) else (bif Nat.blt k 93 then (bif Nat.blt k 92 then (Option.some FieldType.int) else (Option.some FieldType.int)) else (bif Nat.blt k 94 then (Option.some FieldType.int) else (bif Nat.blt k 95 then (Option.some FieldType.int) else (Option.some FieldType.int))))) else (bif Nat.blt k 100 then (bif Nat.blt k 98 then (bif Nat.blt k 97 then (Option.some FieldType.int) else (Option.some FieldType.int)) else (bif Nat.blt k 99 then (Option.some FieldType.int) else (Option.none : Option FieldType))) else (bif Nat.blt k 102 then (bif Nat.blt k 101 then (Option.some FieldType.int) else (Option.some FieldType.int)) else (bif Nat.blt k 103 then (Option.some FieldType.int) else (bif Nat.blt k 104 then (Option.some FieldType.int) else (Option.some FieldType.int))))))) else (bif Nat.blt k 123 then (bif Nat.blt k 114 then (bif Nat.blt k 109 then (bif Nat.blt k 107 then (bif Nat.blt k 106 then (Option.some FieldType.boolean) else (Option.some FieldType.int)) else (bif Nat.blt k 108 then (Option.some FieldType.int) else (Option.some FieldType.int))) else (bif Nat.blt k 111 then (bif Nat.blt k 110 then (Option.none : Option FieldType) else (Option.none : Option FieldType)) else (bif Nat.blt k 112 then (Option.some FieldType.int) else (bif Nat.blt k 113 then (Option.some FieldType.boolean) else (Option.some FieldType.boolean))))) else (bif Nat.blt k 118 then (bif Nat.blt k 116 then (bif Nat.blt k 115 then (Option.some FieldType.boolean) else (Option.some FieldType.int)) else (bif Nat.blt k 117 then (Option.some FieldType.int) else (Option.some FieldType.int))) else (bif Nat.blt k 120 then (bif Nat.blt k 119 then (Option.some FieldType.int) else (Option.some FieldType.int)) else (bif Nat.blt k 121 then (Option.some FieldType.int) else (bif Nat.blt k 122 then (Option.some FieldType.int) else (Option.some FieldType.int)))))) else (bif Nat.blt k 132 then (bif Nat.blt k 127 then (bif Nat.blt k 125 then (bif Nat.blt k 124 then (Option.some FieldType.int) else (Option.some (FieldType.object "SingleTrackLine$Train"))) else (bif Nat.blt k 126 then (Option.some (FieldType.object "SingleTrackLine$Train")) else (Option.some FieldType.int))) else (bif Nat.blt k 129 then (bif Nat.blt k 128 then (Option.some FieldType.int) else (Option.some FieldType.int)) else (bif Nat.blt k 130 then (Option.some FieldType.long) else (bif Nat.blt k 131 then (Option.some FieldType.int) else (Option.some FieldType.double))))) else (bif Nat.blt k 136 then (bif Nat.blt k 134 then (bif Nat.blt k 133 then (Option.some FieldType.float) else (Option.some FieldType.boolean)) else (bif Nat.blt k 135 then (Option.none : Option FieldType) else (Option.some FieldType.int))) else (bif Nat.blt k 138 then (bif Nat.blt k 137 then (Option.some FieldType.int) else (Option.some FieldType.int)) else (bif Nat.blt k 139 then (Option.some FieldType.int) else (bif Nat.blt k 140 then (Option.none : Option FieldType) else (Option.some FieldType.int))))))))) else (bif Nat.blt k 211 then (bif Nat.blt k 176 then (bif Nat.blt k 158 then (bif Nat.blt k 149 then (bif Nat.blt k 145 then (bif Nat.blt k 143 then (bif Nat.blt k 142 then (Option.some FieldType.int) else (Option.some FieldType.char)) else (bif Nat.blt k 144 then (Option.none : Option FieldType) else (Option.none : Option FieldType))) else (bif Nat.blt k 147 then (bif Nat.blt k 146 then (Option.some FieldType.int) else (Option.none : Option FieldType)) else (bif Nat.blt k 148 then (Option.none : Option FieldType) else (Option.none : Option FieldType)))) else (bif Nat.blt k 153 then (bif Nat.blt k 151 then (bif Nat.blt k 150 then (Option.some FieldType.int) else (Option.some FieldType.int)) else (bif Nat.blt k 152 then (Option.some FieldType.boolean) else (Option.none : Option FieldType))) else (bif Nat.blt k 155 then (bif Nat.blt k 154 then (Option.some FieldType.int) else (Option.some FieldType.int)) else (bif Nat.blt k 156 then (Option.some FieldType.boolean) else (bif Nat.blt k 157 then (Option.some FieldType.boolean) else (Option.some FieldType.int)))))) else (bif Nat.blt k 167 then (bif Nat.blt k 162 then (bif Nat.blt k 160 then (bif Nat.blt k 159 then (Option.some FieldType.int) else (Option.some FieldType.int)) else (bif Nat.blt k 161 then (Option.some FieldType.int) else (Option.some FieldType.int))) else (bif Nat.blt k 164 then (bif Nat.blt k 163 then (Option.some FieldType.int) else (Option.some FieldType.int)) else (bif Nat.blt k 165 then (Option.some FieldType.int) else (bif Nat.blt k 166 then (Option.some FieldType.int) else (Option.none : Option FieldType))))) else (bif Nat.blt k 171 then (bif Nat.blt k 169 then (bif Nat.blt k 168 then (Option.some FieldType.int) else (Option.some FieldType.int)) else (bif Nat.blt k 170 then (Option.some FieldType.int) else (Option.some FieldType.int))) else (bif Nat.blt k 173 then (bif Nat.blt k 172 then (Option.some FieldType.int) else (Option.some FieldType.int)) else (bif Nat.blt k 174 then (Option.some FieldType.int) else (bif Nat.blt k 175 then (Option.some FieldType.int) else (Option.some FieldType.int))))))) else (bif Nat.blt k 193 then (bif Nat.blt k 184 then (bif Nat.blt k 180 then (bif Nat.blt k 178 then (bif Nat.blt k 177 then (Option.some FieldType.int) else (Option.some FieldType.int)) else (bif Nat.blt k 179 then (Option.some FieldType.int) else (Option.some FieldType.boolean))) else (bif Nat.blt k 182 then (bif Nat.blt k 181 then (Option.none : Option FieldType) else (Option.none : Option FieldType)) else (bif Nat.blt k 183 then (Option.none : Option FieldType) else (Option.none : Option FieldType)))) else (bif Nat.blt k 188 then (bif Nat.blt k 186 then (bif Nat.blt k 185 then (Option.none : Option FieldType) else (Option.some FieldType.int)) else (bif Nat.blt k 187 then (Option.none : Option FieldType) else (Option.some FieldType.int))) else (bif Nat.blt k 190 then (bif Nat.blt k 189 then (Option.some FieldType.int) else (Option.some FieldType.int)) else (bif Nat.blt k 191 then (Option.some FieldType.int) else (bif Nat.blt k 192 then (Option.some FieldType.int) else (Option.some FieldType.int)))))) else (bif Nat.blt k 202 then (bif Nat.blt k 197 then (bif Nat.blt k 195 then (bif Nat.blt k 194 then (Option.some FieldType.int) else (Option.some FieldType.int)) else (bif Nat.blt k 196 then (Option.some FieldType.boolean) else (Option.some FieldType.int))) else (bif Nat.blt k 199 then (bif Nat.blt k 198 then (Option.some FieldType.int) else (Option.some FieldType.int)) else (bif Nat.blt k 200 then (Option.some FieldType.int) else (bif Nat.blt k 201 then (Option.some FieldType.boolean) else (Option.some FieldType.int))))) else (bif Nat.blt k 206 then (bif Nat.blt k 204 then (bif Nat.blt k 203 then (Option.some FieldType.boolean) else (Option.some FieldType.boolean)) else (bif Nat.blt k 205 then (Option.some FieldType.int) else (Option.some FieldType.int))) else (bif Nat.blt k 208 then (bif Nat.blt k 207 then (Option.some FieldType.int) else (Option.some FieldType.int)) else (bif Nat.blt k 209 then (Option.some FieldType.int) else (bif Nat.blt k 210 then (Option.some FieldType.int) else (Option.some FieldType.int)))))))) else (bif Nat.blt k 246 then (bif Nat.blt k 228 then (bif Nat.blt k 219 then (bif Nat.blt k 215 then (bif Nat.blt k 213 then (bif Nat.blt k 212 then (Option.none : Option FieldType) else (Option.none : Option FieldType)) else (bif Nat.blt k 214 then (Option.some FieldType.int) else (Option.some FieldType.int))) else (bif Nat.blt k 217 then (bif Nat.blt k 216 then (Option.some FieldType.int) else (Option.some FieldType.int)) else (bif Nat.blt k 218 then (Option.some FieldType.int) else (Option.some FieldType.int)))) else (bif Nat.blt k 223 then (bif Nat.blt k 221 then (bif Nat.blt k 220 then (Option.some FieldType.long) else (Option.some FieldType.int)) else (bif Nat.blt k 222 then (Option.some FieldType.double) else (Option.some FieldType.float))) else (bif Nat.blt k 225 then (bif Nat.blt k 224 then (Option.some FieldType.boolean) else (Option.some FieldType.int)) else (bif Nat.blt k 226 then (Option.some FieldType.int) else (bif Nat.blt k 227 then (Option.none : Option FieldType) else (Option.some FieldType.int)))))) else (bif Nat.blt k 237 then (bif Nat.blt k 232 then (bif Nat.blt k 230 then (bif Nat.blt k 229 then (Option.some FieldType.int) else (Option.some FieldType.int)) else (bif Nat.blt k 231 then (Option.none : Option FieldType) else (Option.none : Option FieldType))) else (bif Nat.blt k 234 then (bif Nat.blt k 233 then (Option.none : Option FieldType) else (Option.some FieldType.int)) else (bif Nat.blt k 235 then (Option.some FieldType.int) else (bif Nat.blt k 236 then (Option.some FieldType.int) else (Option.none : Option FieldType))))) else (bif Nat.blt k 241 then (bif Nat.blt k 239 then (bif Nat.blt k 238 then (Option.none : Option FieldType) else (Option.some FieldType.int)) else (bif Nat.blt k 240 then (Option.some FieldType.int) else (Option.some FieldType.char))) else (bif Nat.blt k 243 then (bif Nat.blt k 242 then (Option.some FieldType.int) else (Option.none : Option FieldType)) else (bif Nat.blt k 244 then (Option.none : Option FieldType) else (bif Nat.blt k 245 then (Option.some FieldType.int) else (Option.some FieldType.int))))))) else (bif Nat.blt k 264 then (bif Nat.blt k 255 then (bif Nat.blt k 250 then (bif Nat.blt k 248 then (bif Nat.blt k 247 then (Option.some FieldType.int) else (Option.some FieldType.int)) else (bif Nat.blt k 249 then (Option.some FieldType.int) else (Option.some FieldType.int))) else (bif Nat.blt k 252 then (bif Nat.blt k 251 then (Option.some FieldType.int) else (Option.some FieldType.int)) else (bif Nat.blt k 253 then (Option.some FieldType.int) else (bif Nat.blt k 254 then (Option.some FieldType.int) else (Option.some FieldType.int))))) else (bif Nat.blt k 259 then (bif Nat.blt k 257 then (bif Nat.blt k 256 then (Option.some FieldType.int) else (Option.some FieldType.int)) else (bif Nat.blt k 258 then (Option.some FieldType.int) else (Option.some FieldType.int))) else (bif Nat.blt k 261 then (bif Nat.blt k 260 then (Option.some FieldType.int) else (Option.some FieldType.int)) else (bif Nat.blt k 262 then (Option.some FieldType.int) else (bif Nat.blt k 263 then (Option.some FieldType.int) else (Option.some FieldType.int)))))) else (bif Nat.blt k 273 then (bif Nat.blt k 268 then (bif Nat.blt k 266 then (bif Nat.blt k 265 then (Option.some FieldType.int) else (Option.some FieldType.int)) else (bif Nat.blt k 267 then (Option.some FieldType.int) else (Option.some FieldType.int))) else (bif Nat.blt k 270 then (bif Nat.blt k 269 then (Option.some FieldType.int) else (Option.some FieldType.int)) else (bif Nat.blt k 271 then (Option.some FieldType.int) else (bif Nat.blt k 272 then (Option.some FieldType.int) else (Option.some FieldType.int))))) else (bif Nat.blt k 277 then (bif Nat.blt k 275 then (bif Nat.blt k 274 then (Option.some FieldType.int) else (Option.some FieldType.int)) else (bif Nat.blt k 276 then (Option.some FieldType.int) else (Option.some FieldType.int))) else (bif Nat.blt k 279 then (bif Nat.blt k 278 then (Option.some FieldType.int) else (Option.some FieldType.int)) else (bif Nat.blt k 280 then (Option.some FieldType.int) else (bif Nat.blt k 281 then (Option.some FieldType.int) else ret)))))))))
def marg (k : Nat) : Nat := (bif Nat.blt k 141 then (bif Nat.blt k 70 then (bif Nat.blt k 35 then (bif Nat.blt k 17 then (bif Nat.blt k 8 then (bif Nat.blt k 4 then (bif Nat.blt k 2 then (bif Nat.blt k 1 then 2 else 2) else (bif Nat.blt k 3 then 2 else 2)) else (bif Nat.blt k 6 then (bif Nat.blt k 5 then 2 else 2) else (bif Nat.blt k 7 then 2 else 1))) else (bif Nat.blt k 12 then (bif Nat.blt k 10 then (bif Nat.blt k 9 then 1 else 1) else (bif Nat.blt k 11 then 3 else 1)) else (bif Nat.blt k 14 then (bif Nat.blt k 13 then 2 else 1) else (bif Nat.blt k 15 then 2 else (bif Nat.blt k 16 then 1 else 1))))) else (bif Nat.blt k 26 then (bif Nat.blt k 21 then (bif Nat.blt k 19 then (bif Nat.blt k 18 then 2 else 1) else (bif Nat.blt k 20 then 2 else 2)) else (bif Nat.blt k 23 then (bif Nat.blt k 22 then 2 else 2) else (bif Nat.blt k 24 then 1 else (bif Nat.blt k 25 then 2 else 1)))) else (bif Nat.blt k 30 then (bif Nat.blt k 28 then (bif Nat.blt k 27 then 2 else 3) else (bif Nat.blt k 29 then 3 else 1)) else (bif Nat.blt k 32 then (bif Nat.blt k 31 then 2 else 1) else (bif Nat.blt k 33 then 1 else (bif Nat.blt k 34 then 1 else 1)))))) else (bif Nat.blt k 52 then (bif Nat.blt k 43 then (bif Nat.blt k 39 then (bif Nat.blt k 37 then (bif Nat.blt k 36 then 2 else 5) else (bif Nat.blt k 38 then 3 else 3)) else (bif Nat.blt k 41 then (bif Nat.blt k 40 then 4 else 3) else (bif Nat.blt k 42 then 2 else 2))) else (bif Nat.blt k 47 then (bif Nat.blt k 45 then (bif Nat.blt k 44 then 2 else 1) else (bif Nat.blt k 46 then 1 else 2)) else (bif Nat.blt k 49 then (bif Nat.blt k 48 then 1 else 1) else (bif Nat.blt k 50 then 2 else (bif Nat.blt k 51 then 2 else 3))))) else (bif Nat.blt k 61 then (bif Nat.blt k 56 then (bif Nat.blt k 54 then (bif Nat.blt k 53 then 2 else 1) else (bif Nat.blt k 55 then 2 else 2)) else (bif Nat.blt k 58 then (bif Nat.blt k 57 then 2 else 1) else (bif Nat.blt k 59 then 2 else (bif Nat.blt k 60 then 2 else 2)))) else (bif Nat.blt k 65 then (bif Nat.blt k 63 then (bif Nat.blt k 62 then 3 else 3) else (bif Nat.blt k 64 then 2 else 2)) else (bif Nat.blt k 67 then (bif Nat.blt k 66 then 1 else 1) else (bif Nat.blt k 68 then 1 else (bif Nat.blt k 69 then 1 else 1))))))) else (bif Nat.blt k 105 then (bif Nat.blt k 87 then (bif Nat.blt k 78 then (bif Nat.blt k 74 then (bif Nat.blt k 72 then (bif Nat.blt k 71 then 2 else 1) else (bif Nat.blt k 73 then 1 else 1)) else (bif Nat.blt k 76 then (bif Nat.blt k 75 then 1 else 1) else (bif Nat.blt k 77 then 2 else 2))) else (bif Nat.blt k 82 then (bif Nat.blt k 80 then (bif Nat.blt k 79 then 2 else 1) else (bif Nat.blt k 81 then 2 else 1)) else (bif Nat.blt k 84 then (bif Nat.blt k 83 then 1 else 2) else (bif Nat.blt k 85 then 1 else (bif Nat.blt k 86 then 3 else 4))))) else (bif Nat.blt k 96 then (bif Nat.blt k 91 then (bif Nat.blt k 89 then (bif Nat.blt k 88 then 2 else 2) else (bif Nat.blt k 90 then 2 else 1)) else (bif Nat.blt k 93 then (bif Nat.blt k 92 then 3 else 3) else (bif Nat.blt k 94 then 4 else (bif Nat.blt k 95 then 2 else 2)))) else (bif Nat.blt k 100 then (bif Nat.blt k 98 then (bif Nat.blt k 97 then 2 else 2) else (bif Nat.blt k 99 then 5 else 1)) else (bif Nat.blt k 102 then (bif Nat.blt k 101 then 1 else 2) else (bif Nat.blt k 103 then 2 else (bif Nat.blt k 104 then 2 else 2)))))) else (bif Nat.blt k 123 then (bif Nat.blt k 114 then (bif Nat.blt k 109 then (bif Nat.blt k 107 then (bif Nat.blt k 106 then 2 else 2) else (bif Nat.blt k 108 then 3 else 3)) else (bif Nat.blt k 111 then (bif Nat.blt k 110 then 2 else 2) else (bif Nat.blt k 112 then 1 else (bif Nat.blt k 113 then 2 else 2)))) else (bif Nat.blt k 118 then (bif Nat.blt k 116 then (bif Nat.blt k 115 then 2 else 2) else (bif Nat.blt k 117 then 2 else 2)) else (bif Nat.blt k 120 then (bif Nat.blt k 119 then 2 else 2) else (bif Nat.blt k 121 then 2 else (bif Nat.blt k 122 then 2 else 1))))) else (bif Nat.blt k 132 then (bif Nat.blt k 127 then (bif Nat.blt k 125 then (bif Nat.blt k 124 then 2 else 2) else (bif Nat.blt k 126 then 2 else 1)) else (bif Nat.blt k 129 then (bif Nat.blt k 128 then 1 else 1) else (bif Nat.blt k 130 then 1 else (bif Nat.blt k 131 then 1 else 1)))) else (bif Nat.blt k 136 then (bif Nat.blt k 134 then (bif Nat.blt k 133 then 1 else 1) else (bif Nat.blt k 135 then 1 else 2)) else (bif Nat.blt k 138 then (bif Nat.blt k 137 then 1 else 1) else (bif Nat.blt k 139 then 1 else (bif Nat.blt k 140 then 1 else 1)))))))) else (bif Nat.blt k 211 then (bif Nat.blt k 176 then (bif Nat.blt k 158 then (bif Nat.blt k 149 then (bif Nat.blt k 145 then (bif Nat.blt k 143 then (bif Nat.blt k 142 then 2 else 2) else (bif Nat.blt k 144 then 2 else 2)) else (bif Nat.blt k 147 then (bif Nat.blt k 146 then 1 else 1) else (bif Nat.blt k 148 then 1 else 1))) else (bif Nat.blt k 153 then (bif Nat.blt k 151 then (bif Nat.blt k 150 then 1 else 2) else (bif Nat.blt k 152 then 3 else 1)) else (bif Nat.blt k 155 then (bif Nat.blt k 154 then 2 else 1) else (bif Nat.blt k 156 then 2 else (bif Nat.blt k 157 then 2 else 2))))) else (bif Nat.blt k 167 then (bif Nat.blt k 162 then (bif Nat.blt k 160 then (bif Nat.blt k 159 then 2 else 2) else (bif Nat.blt k 161 then 2 else 2)) else (bif Nat.blt k 164 then (bif Nat.blt k 163 then 2 else 2) else (bif Nat.blt k 165 then 3 else (bif Nat.blt k 166 then 2 else 2)))) else (bif Nat.blt k 171 then (bif Nat.blt k 169 then (bif Nat.blt k 168 then 3 else 3) else (bif Nat.blt k 170 then 3 else 3)) else (bif Nat.blt k 173 then (bif Nat.blt k 172 then 4 else 4) else (bif Nat.blt k 174 then 1 else (bif Nat.blt k 175 then 3 else 2)))))) else (bif Nat.blt k 193 then (bif Nat.blt k 184 then (bif Nat.blt k 180 then (bif Nat.blt k 178 then (bif Nat.blt k 177 then 2 else 2) else (bif Nat.blt k 179 then 2 else 2)) else (bif Nat.blt k 182 then (bif Nat.blt k 181 then 3 else 2) else (bif Nat.blt k 183 then 1 else 1))) else (bif Nat.blt k 188 then (bif Nat.blt k 186 then (bif Nat.blt k 185 then 2 else 2) else (bif Nat.blt k 187 then 1 else 2)) else (bif Nat.blt k 190 then (bif Nat.blt k 189 then 2 else 2) else (bif Nat.blt k 191 then 1 else (bif Nat.blt k 192 then 2 else 2))))) else (bif Nat.blt k 202 then (bif Nat.blt k 197 then (bif Nat.blt k 195 then (bif Nat.blt k 194 then 2 else 2) else (bif Nat.blt k 196 then 2 else 2)) else (bif Nat.blt k 199 then (bif Nat.blt k 198 then 3 else 3) else (bif Nat.blt k 200 then 1 else (bif Nat.blt k 201 then 2 else 3)))) else (bif Nat.blt k 206 then (bif Nat.blt k 204 then (bif Nat.blt k 203 then 2 else 2) else (bif Nat.blt k 205 then 4 else 2)) else (bif Nat.blt k 208 then (bif Nat.blt k 207 then 2 else 2) else (bif Nat.blt k 209 then 2 else (bif Nat.blt k 210 then 2 else 2))))))) else (bif Nat.blt k 246 then (bif Nat.blt k 228 then (bif Nat.blt k 219 then (bif Nat.blt k 215 then (bif Nat.blt k 213 then (bif Nat.blt k 212 then 1 else 1) else (bif Nat.blt k 214 then 2 else 1)) else (bif Nat.blt k 217 then (bif Nat.blt k 216 then 2 else 1) else (bif Nat.blt k 218 then 1 else 1))) else (bif Nat.blt k 223 then (bif Nat.blt k 221 then (bif Nat.blt k 220 then 1 else 1) else (bif Nat.blt k 222 then 1 else 1)) else (bif Nat.blt k 225 then (bif Nat.blt k 224 then 1 else 2) else (bif Nat.blt k 226 then 1 else (bif Nat.blt k 227 then 2 else 1))))) else (bif Nat.blt k 237 then (bif Nat.blt k 232 then (bif Nat.blt k 230 then (bif Nat.blt k 229 then 1 else 2) else (bif Nat.blt k 231 then 3 else 1)) else (bif Nat.blt k 234 then (bif Nat.blt k 233 then 2 else 1) else (bif Nat.blt k 235 then 1 else (bif Nat.blt k 236 then 1 else 2)))) else (bif Nat.blt k 241 then (bif Nat.blt k 239 then (bif Nat.blt k 238 then 2 else 1) else (bif Nat.blt k 240 then 2 else 2)) else (bif Nat.blt k 243 then (bif Nat.blt k 242 then 1 else 1) else (bif Nat.blt k 244 then 1 else (bif Nat.blt k 245 then 4 else 4)))))) else (bif Nat.blt k 264 then (bif Nat.blt k 255 then (bif Nat.blt k 250 then (bif Nat.blt k 248 then (bif Nat.blt k 247 then 5 else 3) else (bif Nat.blt k 249 then 3 else 3)) else (bif Nat.blt k 252 then (bif Nat.blt k 251 then 3 else 3) else (bif Nat.blt k 253 then 3 else (bif Nat.blt k 254 then 3 else 3)))) else (bif Nat.blt k 259 then (bif Nat.blt k 257 then (bif Nat.blt k 256 then 3 else 3) else (bif Nat.blt k 258 then 4 else 4)) else (bif Nat.blt k 261 then (bif Nat.blt k 260 then 3 else 3) else (bif Nat.blt k 262 then 3 else (bif Nat.blt k 263 then 3 else 3))))) else (bif Nat.blt k 273 then (bif Nat.blt k 268 then (bif Nat.blt k 266 then (bif Nat.blt k 265 then 3 else 3) else (bif Nat.blt k 267 then 3 else 3)) else (bif Nat.blt k 270 then (bif Nat.blt k 269 then 3 else 2) else (bif Nat.blt k 271 then 2 else (bif Nat.blt k 272 then 2 else 2)))) else (bif Nat.blt k 277 then (bif Nat.blt k 275 then (bif Nat.blt k 274 then 3 else 2) else (bif Nat.blt k 276 then 2 else 2)) else (bif Nat.blt k 279 then (bif Nat.blt k 278 then 3 else 3) else (bif Nat.blt k 280 then 2 else (bif Nat.blt k 281 then 1 else 1)))))))))
def mstat (k : Nat) : Bool := (bif Nat.blt k 141 then (bif Nat.blt k 70 then (bif Nat.blt k 35 then (bif Nat.blt k 17 then (bif Nat.blt k 8 then (bif Nat.blt k 4 then (bif Nat.blt k 2 then (bif Nat.blt k 1 then false else false) else (bif Nat.blt k 3 then false else false)) else (bif Nat.blt k 6 then (bif Nat.blt k 5 then false else false) else (bif Nat.blt k 7 then false else false))) else (bif Nat.blt k 12 then (bif Nat.blt k 10 then (bif Nat.blt k 9 then false else false) else (bif Nat.blt k 11 then true else true)) else (bif Nat.blt k 14 then (bif Nat.blt k 13 then true else false) else (bif Nat.blt k 15 then false else (bif Nat.blt k 16 then false else false))))) else (bif Nat.blt k 26 then (bif Nat.blt k 21 then (bif Nat.blt k 19 then (bif Nat.blt k 18 then true else false) else (bif Nat.blt k 20 then false else false)) else (bif Nat.blt k 23 then (bif Nat.blt k 22 then false else false) else (bif Nat.blt k 24 then false else (bif Nat.blt k 25 then true else true)))) else (bif Nat.blt k 30 then (bif Nat.blt k 28 then (bif Nat.blt k 27 then true else true) else (bif Nat.blt k 29 then true else false)) else (bif Nat.blt k 32 then (bif Nat.blt k 31 then false else false) else (bif Nat.blt k 33 then false else (bif Nat.blt k 34 then false else false)))))) else (bif Nat.blt k 52 then (bif Nat.blt k 43 then (bif Nat.blt k 39 then (bif Nat.blt k 37 then (bif Nat.blt k 36 then false else false) else (bif Nat.blt k 38 then false else false)) else (bif Nat.blt k 41 then (bif Nat.blt k 40 then false else false) else (bif Nat.blt k 42 then false else false))) else (bif Nat.blt k 47 then (bif Nat.blt k 45 then (bif Nat.blt k 44 then false else false) else (bif Nat.blt k 46 then false else false)) else (bif Nat.blt k 49 then (bif Nat.blt k 48 then false else false) else (bif Nat.blt k 50 then false else (bif Nat.blt k 51 then false else false))))) else (bif Nat.blt k 61 then (bif Nat.blt k 56 then (bif Nat.blt k 54 then (bif Nat.blt k 53 then false else false) else (bif Nat.blt k 55 then false else false)) else (bif Nat.blt k 58 then (bif Nat.blt k 57 then false else true) else (bif Nat.blt k 59 then false else (bif Nat.blt k 60 then false else false)))) else (bif Nat.blt k 65 then (bif Nat.blt k 63 then (bif Nat.blt k 62 then false else false) else (bif Nat.blt k 64 then false else false)) else (bif Nat.blt k 67 then (bif Nat.blt k 66 then false else false) else (bif Nat.blt k 68 then false else (bif Nat.blt k 69 then false else false))))))) else (bif Nat.blt k 105 then (bif Nat.blt k 87 then (bif Nat.blt k 78 then (bif Nat.blt k 74 then (bif Nat.blt k 72 then (bif Nat.blt k 71 then false else false) else (bif Nat.blt k 73 then false else false)) else (bif Nat.blt k 76 then (bif Nat.blt k 75 then false else false) else (bif Nat.blt k 77 then false else false))) else (bif Nat.blt k 82 then (bif Nat.blt k 80 then (bif Nat.blt k 79 then false else false) else (bif Nat.blt k 81 then false else false)) else (bif Nat.blt k 84 then (bif Nat.blt k 83 then false else false) else (bif Nat.blt k 85 then false else (bif Nat.blt k 86 then false else false))))) else (bif Nat.blt k 96 then (bif Nat.blt k 91 then (bif Nat.blt k 89 then (bif Nat.blt k 88 then false else false) else (bif Nat.blt k 90 then false else false)) else (bif Nat.blt k 93 then (bif Nat.blt k 92 then false else false) else (bif Nat.blt k 94 then false else (bif Nat.blt k 95 then false else false)))) else (bif Nat.blt k 100 then (bif Nat.blt k 98 then (bif Nat.blt k 97 then false else false) else (bif Nat.blt k 99 then false else true)) else (bif Nat.blt k 102 then (bif Nat.blt k 101 then false else false) else (bif Nat.blt k 103 then false else (bif Nat.blt k 104 then false else false)))))) else (bif Nat.blt k 123 then (bif Nat.blt k 114 then (bif Nat.blt k 109 then (bif Nat.blt k 107 then (bif Nat.blt k 106 then false else false) else (bif Nat.blt k 108 then false else false)) else (bif Nat.blt k 111 then (bif Nat.blt k 110 then false else false) else (bif Nat.blt k 112 then false else (bif Nat.blt k 113 then false else false)))) else (bif Nat.blt k 118 then (bif Nat.blt k 116 then (bif Nat.blt k 115 then false else false) else (bif Nat.blt k 117 then false else false)) else (bif Nat.blt k 120 then (bif Nat.blt k 119 then false else false) else (bif Nat.blt k 121 then false else (bif Nat.blt k 122 then false else false))))) else (bif Nat.blt k 132 then (bif Nat.blt k 127 then (bif Nat.blt k 125 then (bif Nat.blt k 124 then false else false) else (bif Nat.blt k 126 then false else false)) else (bif Nat.blt k 129 then (bif Nat.blt k 128 then false else false) else (bif Nat.blt k 130 then false else (bif Nat.blt k 131 then false else false)))) else (bif Nat.blt k 136 then (bif Nat.blt k 134 then (bif Nat.blt k 133 then false else false) else (bif Nat.blt k 135 then false else false)) else (bif Nat.blt k 138 then (bif Nat.blt k 137 then false else false) else (bif Nat.blt k 139 then false else (bif Nat.blt k 140 then false else false)))))))) else (bif Nat.blt k 211 then (bif Nat.blt k 176 then (bif Nat.blt k 158 then (bif Nat.blt k 149 then (bif Nat.blt k 145 then (bif Nat.blt k 143 then (bif Nat.blt k 142 then false else false) else (bif Nat.blt k 144 then false else false)) else (bif Nat.blt k 147 then (bif Nat.blt k 146 then false else false) else (bif Nat.blt k 148 then false else false))) else (bif Nat.blt k 153 then (bif Nat.blt k 151 then (bif Nat.blt k 150 then false else false) else (bif Nat.blt k 152 then true else false)) else (bif Nat.blt k 155 then (bif Nat.blt k 154 then false else true) else (bif Nat.blt k 156 then false else (bif Nat.blt k 157 then false else false))))) else (bif Nat.blt k 167 then (bif Nat.blt k 162 then (bif Nat.blt k 160 then (bif Nat.blt k 159 then false else false) else (bif Nat.blt k 161 then false else false)) else (bif Nat.blt k 164 then (bif Nat.blt k 163 then false else false) else (bif Nat.blt k 165 then false else (bif Nat.blt k 166 then false else false)))) else (bif Nat.blt k 171 then (bif Nat.blt k 169 then (bif Nat.blt k 168 then false else false) else (bif Nat.blt k 170 then false else false)) else (bif Nat.blt k 173 then (bif Nat.blt k 172 then false else false) else (bif Nat.blt k 174 then false else (bif Nat.blt k 175 then false else false)))))) else (bif Nat.blt k 193 then (bif Nat.blt k 184 then (bif Nat.blt k 180 then (bif Nat.blt k 178 then (bif Nat.blt k 177 then false else false) else (bif Nat.blt k 179 then false else false)) else (bif Nat.blt k 182 then (bif Nat.blt k 181 then false else false) else (bif Nat.blt k 183 then false else false))) else (bif Nat.blt k 188 then (bif Nat.blt k 186 then (bif Nat.blt k 185 then false else false) else (bif Nat.blt k 187 then false else false)) else (bif Nat.blt k 190 then (bif Nat.blt k 189 then false else false) else (bif Nat.blt k 191 then false else (bif Nat.blt k 192 then false else false))))) else (bif Nat.blt k 202 then (bif Nat.blt k 197 then (bif Nat.blt k 195 then (bif Nat.blt k 194 then false else false) else (bif Nat.blt k 196 then false else false)) else (bif Nat.blt k 199 then (bif Nat.blt k 198 then false else false) else (bif Nat.blt k 200 then false else (bif Nat.blt k 201 then false else false)))) else (bif Nat.blt k 206 then (bif Nat.blt k 204 then (bif Nat.blt k 203 then false else false) else (bif Nat.blt k 205 then false else false)) else (bif Nat.blt k 208 then (bif Nat.blt k 207 then false else false) else (bif Nat.blt k 209 then false else (bif Nat.blt k 210 then false else false))))))) else (bif Nat.blt k 246 then (bif Nat.blt k 228 then (bif Nat.blt k 219 then (bif Nat.blt k 215 then (bif Nat.blt k 213 then (bif Nat.blt k 212 then false else false) else (bif Nat.blt k 214 then false else false)) else (bif Nat.blt k 217 then (bif Nat.blt k 216 then false else false) else (bif Nat.blt k 218 then false else false))) else (bif Nat.blt k 223 then (bif Nat.blt k 221 then (bif Nat.blt k 220 then false else false) else (bif Nat.blt k 222 then false else false)) else (bif Nat.blt k 225 then (bif Nat.blt k 224 then false else false) else (bif Nat.blt k 226 then false else (bif Nat.blt k 227 then false else false))))) else (bif Nat.blt k 237 then (bif Nat.blt k 232 then (bif Nat.blt k 230 then (bif Nat.blt k 229 then false else false) else (bif Nat.blt k 231 then false else false)) else (bif Nat.blt k 234 then (bif Nat.blt k 233 then false else false) else (bif Nat.blt k 235 then false else (bif Nat.blt k 236 then false else false)))) else (bif Nat.blt k 241 then (bif Nat.blt k 239 then (bif Nat.blt k 238 then false else false) else (bif Nat.blt k 240 then false else false)) else (bif Nat.blt k 243 then (bif Nat.blt k 242 then false else false) else (bif Nat.blt k 244 then false else (bif Nat.blt k 245 then true else true)))))) else (bif Nat.blt k 264 then (bif Nat.blt k 255 then (bif Nat.blt k 250 then (bif Nat.blt k 248 then (bif Nat.blt k 247 then true else true) else (bif Nat.blt k 249 then true else true)) else (bif Nat.blt k 252 then (bif Nat.blt k 251 then true else true) else (bif Nat.blt k 253 then true else (bif Nat.blt k 254 then true else true)))) else (bif Nat.blt k 259 then (bif Nat.blt k 257 then (bif Nat.blt k 256 then true else true) else (bif Nat.blt k 258 then true else true)) else (bif Nat.blt k 261 then (bif Nat.blt k 260 then true else true) else (bif Nat.blt k 262 then true else (bif Nat.blt k 263 then true else true))))) else (bif Nat.blt k 273 then (bif Nat.blt k 268 then (bif Nat.blt k 266 then (bif Nat.blt k 265 then true else true) else (bif Nat.blt k 267 then true else true)) else (bif Nat.blt k 270 then (bif Nat.blt k 269 then true else true) else (bif Nat.blt k 271 then true else (bif Nat.blt k 272 then true else true)))) else (bif Nat.blt k 277 then (bif Nat.blt k 275 then (bif Nat.blt k 274 then true else true) else (bif Nat.blt k 276 then true else true)) else (bif Nat.blt k 279 then (bif Nat.blt k 278 then true else true) else (bif Nat.blt k 280 then true else (bif Nat.blt k 281 then true else true)))))))))
def mrk (k : Nat) : Nat := (bif Nat.blt k 141 then (bif Nat.blt k 70 then (bif Nat.blt k 35 then (bif Nat.blt k 17 then (bif Nat.blt k 8 then (bif Nat.blt k 4 then (bif Nat.blt k 2 then (bif Nat.blt k 1 then 1 else 3) else (bif Nat.blt k 3 then 2 else 4)) else (bif Nat.blt k 6 then (bif Nat.blt k 5 then 3 else 4) else (bif Nat.blt k 7 then 4 else 1))) else (bif Nat.blt k 12 then (bif Nat.blt k 10 then (bif Nat.blt k 9 then 1 else 1) else (bif Nat.blt k 11 then 1 else 1)) else (bif Nat.blt k 14 then (bif Nat.blt k 13 then 1 else 2) else (bif Nat.blt k 15 then 4 else (bif Nat.blt k 16 then 1 else 1))))) else (bif Nat.blt k 26 then (bif Nat.blt k 21 then (bif Nat.blt k 19 then (bif Nat.blt k 18 then 2 else 2) else (bif Nat.blt k 20 then 5 else 5)) else (bif Nat.blt k 23 then (bif Nat.blt k 22 then 4 else 5) else (bif Nat.blt k 24 then 2 else (bif Nat.blt k 25 then 3 else 1)))) else (bif Nat.blt k 30 then (bif Nat.blt k 28 then (bif Nat.blt k 27 then 1 else 1) else (bif Nat.blt k 29 then 1 else 3)) else (bif Nat.blt k 32 then (bif Nat.blt k 31 then 3 else 1) else (bif Nat.blt k 33 then 2 else (bif Nat.blt k 34 then 2 else 2)))))) else (bif Nat.blt k 52 then (bif Nat.blt k 43 then (bif Nat.blt k 39 then (bif Nat.blt k 37 then (bif Nat.blt k 36 then 2 else 6) else (bif Nat.blt k 38 then 2 else 2)) else (bif Nat.blt k 41 then (bif Nat.blt k 40 then 3 else 3) else (bif Nat.blt k 42 then 3 else 5))) else (bif Nat.blt k 47 then (bif Nat.blt k 45 then (bif Nat.blt k 44 then 1 else 4) else (bif Nat.blt k 46 then 3 else 2)) else (bif Nat.blt k 49 then (bif Nat.blt k 48 then 2 else 3) else (bif Nat.blt k 50 then 2 else (bif Nat.blt k 51 then 2 else 3))))) else (bif Nat.blt k 61 then (bif Nat.blt k 56 then (bif Nat.blt k 54 then (bif Nat.blt k 53 then 5 else 5) else (bif Nat.blt k 55 then 6 else 1)) else (bif Nat.blt k 58 then (bif Nat.blt k 57 then 1 else 1) else (bif Nat.blt k 59 then 2 else (bif Nat.blt k 60 then 1 else 1)))) else (bif Nat.blt k 65 then (bif Nat.blt k 63 then (bif Nat.blt k 62 then 2 else 2) else (bif Nat.blt k 64 then 1 else 2)) else (bif Nat.blt k 67 then (bif Nat.blt k 66 then 2 else 2) else (bif Nat.blt k 68 then 3 else (bif Nat.blt k 69 then 1 else 1))))))) else (bif Nat.blt k 105 then (bif Nat.blt k 87 then (bif Nat.blt k 78 then (bif Nat.blt k 74 then (bif Nat.blt k 72 then (bif Nat.blt k 71 then 2 else 1) else (bif Nat.blt k 73 then 1 else 7)) else (bif Nat.blt k 76 then (bif Nat.blt k 75 then 7 else 6) else (bif Nat.blt k 77 then 5 else 3))) else (bif Nat.blt k 82 then (bif Nat.blt k 80 then (bif Nat.blt k 79 then 2 else 1) else (bif Nat.blt k 81 then 1 else 1)) else (bif Nat.blt k 84 then (bif Nat.blt k 83 then 1 else 1) else (bif Nat.blt k 85 then 1 else (bif Nat.blt k 86 then 1 else 1))))) else (bif Nat.blt k 96 then (bif Nat.blt k 91 then (bif Nat.blt k 89 then (bif Nat.blt k 88 then 1 else 1) else (bif Nat.blt k 90 then 1 else 4)) else (bif Nat.blt k 93 then (bif Nat.blt k 92 then 8 else 8) else (bif Nat.blt k 94 then 8 else (bif Nat.blt k 95 then 8 else 8)))) else (bif Nat.blt k 100 then (bif Nat.blt k 98 then (bif Nat.blt k 97 then 8 else 8) else (bif Nat.blt k 99 then 7 else 1)) else (bif Nat.blt k 102 then (bif Nat.blt k 101 then 1 else 3) else (bif Nat.blt k 103 then 3 else (bif Nat.blt k 104 then 3 else 3)))))) else (bif Nat.blt k 123 then (bif Nat.blt k 114 then (bif Nat.blt k 109 then (bif Nat.blt k 107 then (bif Nat.blt k 106 then 3 else 3) else (bif Nat.blt k 108 then 3 else 3)) else (bif Nat.blt k 111 then (bif Nat.blt k 110 then 2 else 2) else (bif Nat.blt k 112 then 1 else (bif Nat.blt k 113 then 3 else 4)))) else (bif Nat.blt k 118 then (bif Nat.blt k 116 then (bif Nat.blt k 115 then 4 else 4) else (bif Nat.blt k 117 then 5 else 5)) else (bif Nat.blt k 120 then (bif Nat.blt k 119 then 4 else 4) else (bif Nat.blt k 121 then 6 else (bif Nat.blt k 122 then 6 else 6))))) else (bif Nat.blt k 132 then (bif Nat.blt k 127 then (bif Nat.blt k 125 then (bif Nat.blt k 124 then 3 else 3) else (bif Nat.blt k 126 then 4 else 1)) else (bif Nat.blt k 129 then (bif Nat.blt k 128 then 1 else 2) else (bif Nat.blt k 130 then 1 else (bif Nat.blt k 131 then 2 else 1)))) else (bif Nat.blt k 136 then (bif Nat.blt k 134 then (bif Nat.blt k 133 then 1 else 7) else (bif Nat.blt k 135 then 1 else 3)) else (bif Nat.blt k 138 then (bif Nat.blt k 137 then 9 else 1) else (bif Nat.blt k 139 then 1 else (bif Nat.blt k 140 then 8 else 7)))))))) else (bif Nat.blt k 211 then (bif Nat.blt k 176 then (bif Nat.blt k 158 then (bif Nat.blt k 149 then (bif Nat.blt k 145 then (bif Nat.blt k 143 then (bif Nat.blt k 142 then 6 else 5) else (bif Nat.blt k 144 then 6 else 6)) else (bif Nat.blt k 147 then (bif Nat.blt k 146 then 3 else 3) else (bif Nat.blt k 148 then 3 else 1))) else (bif Nat.blt k 153 then (bif Nat.blt k 151 then (bif Nat.blt k 150 then 1 else 1) else (bif Nat.blt k 152 then 1 else 1)) else (bif Nat.blt k 155 then (bif Nat.blt k 154 then 1 else 1) else (bif Nat.blt k 156 then 2 else (bif Nat.blt k 157 then 2 else 2))))) else (bif Nat.blt k 167 then (bif Nat.blt k 162 then (bif Nat.blt k 160 then (bif Nat.blt k 159 then 2 else 3) else (bif Nat.blt k 161 then 2 else 2)) else (bif Nat.blt k 164 then (bif Nat.blt k 163 then 4 else 5) else (bif Nat.blt k 165 then 1 else (bif Nat.blt k 166 then 2 else 2)))) else (bif Nat.blt k 171 then (bif Nat.blt k 169 then (bif Nat.blt k 168 then 2 else 3) else (bif Nat.blt k 170 then 5 else 6)) else (bif Nat.blt k 173 then (bif Nat.blt k 172 then 3 else 4) else (bif Nat.blt k 174 then 2 else (bif Nat.blt k 175 then 3 else 4)))))) else (bif Nat.blt k 193 then (bif Nat.blt k 184 then (bif Nat.blt k 180 then (bif Nat.blt k 178 then (bif Nat.blt k 177 then 4 else 3) else (bif Nat.blt k 179 then 4 else 1)) else (bif Nat.blt k 182 then (bif Nat.blt k 181 then 2 else 3) else (bif Nat.blt k 183 then 4 else 6))) else (bif Nat.blt k 188 then (bif Nat.blt k 186 then (bif Nat.blt k 185 then 6 else 2) else (bif Nat.blt k 187 then 7 else 8)) else (bif Nat.blt k 190 then (bif Nat.blt k 189 then 9 else 1) else (bif Nat.blt k 191 then 2 else (bif Nat.blt k 192 then 3 else 6))))) else (bif Nat.blt k 202 then (bif Nat.blt k 197 then (bif Nat.blt k 195 then (bif Nat.blt k 194 then 3 else 3) else (bif Nat.blt k 196 then 3 else 3)) else (bif Nat.blt k 199 then (bif Nat.blt k 198 then 3 else 4) else (bif Nat.blt k 200 then 2 else (bif Nat.blt k 201 then 3 else 3)))) else (bif Nat.blt k 206 then (bif Nat.blt k 204 then (bif Nat.blt k 203 then 4 else 4) else (bif Nat.blt k 205 then 4 else 5)) else (bif Nat.blt k 208 then (bif Nat.blt k 207 then 5 else 5) else (bif Nat.blt k 209 then 4 else (bif Nat.blt k 210 then 3 else 3))))))) else (bif Nat.blt k 246 then (bif Nat.blt k 228 then (bif Nat.blt k 219 then (bif Nat.blt k 215 then (bif Nat.blt k 213 then (bif Nat.blt k 212 then 1 else 1) else (bif Nat.blt k 214 then 8 else 8)) else (bif Nat.blt k 217 then (bif Nat.blt k 216 then 3 else 2) else (bif Nat.blt k 218 then 2 else 2))) else (bif Nat.blt k 223 then (bif Nat.blt k 221 then (bif Nat.blt k 220 then 2 else 2) else (bif Nat.blt k 222 then 2 else 2)) else (bif Nat.blt k 225 then (bif Nat.blt k 224 then 1 else 2) else (bif Nat.blt k 226 then 1 else (bif Nat.blt k 227 then 2 else 2))))) else (bif Nat.blt k 237 then (bif Nat.blt k 232 then (bif Nat.blt k 230 then (bif Nat.blt k 229 then 3 else 1) else (bif Nat.blt k 231 then 4 else 5)) else (bif Nat.blt k 234 then (bif Nat.blt k 233 then 9 else 10) else (bif Nat.blt k 235 then 2 else (bif Nat.blt k 236 then 2 else 1)))) else (bif Nat.blt k 241 then (bif Nat.blt k 239 then (bif Nat.blt k 238 then 2 else 3) else (bif Nat.blt k 240 then 3 else 2)) else (bif Nat.blt k 243 then (bif Nat.blt k 242 then 2 else 1) else (bif Nat.blt k 244 then 2 else (bif Nat.blt k 245 then 9 else 9)))))) else (bif Nat.blt k 264 then (bif Nat.blt k 255 then (bif Nat.blt k 250 then (bif Nat.blt k 248 then (bif Nat.blt k 247 then 9 else 9) else (bif Nat.blt k 249 then 9 else 9)) else (bif Nat.blt k 252 then (bif Nat.blt k 251 then 9 else 4) else (bif Nat.blt k 253 then 4 else (bif Nat.blt k 254 then 4 else 4)))) else (bif Nat.blt k 259 then (bif Nat.blt k 257 then (bif Nat.blt k 256 then 4 else 4) else (bif Nat.blt k 258 then 4 else 4)) else (bif Nat.blt k 261 then (bif Nat.blt k 260 then 5 else 5) else (bif Nat.blt k 262 then 5 else (bif Nat.blt k 263 then 6 else 6))))) else (bif Nat.blt k 273 then (bif Nat.blt k 268 then (bif Nat.blt k 266 then (bif Nat.blt k 265 then 5 else 5) else (bif Nat.blt k 267 then 7 else 7)) else (bif Nat.blt k 270 then (bif Nat.blt k 269 then 4 else 3) else (bif Nat.blt k 271 then 3 else (bif Nat.blt k 272 then 2 else 2)))) else (bif Nat.blt k 277 then (bif Nat.blt k 275 then (bif Nat.blt k 274 then 4 else 10) else (bif Nat.blt k 276 then 2 else 2)) else (bif Nat.blt k 279 then (bif Nat.blt k 278 then 7 else 6) else (bif Nat.blt k 280 then 4 else (bif Nat.blt k 281 then 4 else 11)))))))))
def mhh (k : Nat) : List (Nat × Nat × Nat × Nat) := (bif Nat.blt k 141 then (bif Nat.blt k 70 then (bif Nat.blt k 35 then (bif Nat.blt k 17 then (bif Nat.blt k 8 then (bif Nat.blt k 4 then (bif Nat.blt k 2 then (bif Nat.blt k 1 then [] else []) else (bif Nat.blt k 3 then [] else [])) else (bif Nat.blt k 6 then (bif Nat.blt k 5 then [] else []) else (bif Nat.blt k 7 then [] else []))) else (bif Nat.blt k 12 then (bif Nat.blt k 10 then (bif Nat.blt k 9 then [] else []) else (bif Nat.blt k 11 then [] else [])) else (bif Nat.blt k 14 then (bif Nat.blt k 13 then [] else []) else (bif Nat.blt k 15 then [] else (bif Nat.blt k 16 then [] else []))))) else (bif Nat.blt k 26 then (bif Nat.blt k 21 then (bif Nat.blt k 19 then (bif Nat.blt k 18 then [] else []) else (bif Nat.blt k 20 then [] else [])) else (bif Nat.blt k 23 then (bif Nat.blt k 22 then [] else []) else (bif Nat.blt k 24 then [] else (bif Nat.blt k 25 then [] else [])))) else (bif Nat.blt k 30 then (bif Nat.blt k 28 then (bif Nat.blt k 27 then [] else []) else (bif Nat.blt k 29 then [] else [])) else (bif Nat.blt k 32 then (bif Nat.blt k 31 then [] else []) else (bif Nat.blt k 33 then [] else (bif Nat.blt k 34 then [] else [])))))) else (bif Nat.blt k 52 then (bif Nat.blt k 43 then (bif Nat.blt k 39 then (bif Nat.blt k 37 then (bif Nat.blt k 36 then [] else []) else (bif Nat.blt k 38 then [] else [])) else (bif Nat.blt k 41 then (bif Nat.blt k 40 then [] else []) else (bif Nat.blt k 42 then [] else []))) else (bif Nat.blt k 47 then (bif Nat.blt k 45 then (bif Nat.blt k 44 then [] else []) else (bif Nat.blt k 46 then [] else [])) else (bif Nat.blt k 49 then (bif Nat.blt k 48 then [] else []) else (bif Nat.blt k 50 then [] else (bif Nat.blt k 51 then [] else []))))) else (bif Nat.blt k 61 then (bif Nat.blt k 56 then (bif Nat.blt k 54 then (bif Nat.blt k 53 then [] else []) else (bif Nat.blt k 55 then [] else [])) else (bif Nat.blt k 58 then (bif Nat.blt k 57 then [] else []) else (bif Nat.blt k 59 then [] else (bif Nat.blt k 60 then [] else [])))) else (bif Nat.blt k 65 then (bif Nat.blt k 63 then (bif Nat.blt k 62 then [] else []) else (bif Nat.blt k 64 then [] else [])) else (bif Nat.blt k 67 then (bif Nat.blt k 66 then [] else []) else (bif Nat.blt k 68 then [] else (bif Nat.blt k 69 then [] else []))))))) else (bif Nat.blt k 105 then (bif Nat.blt k 87 then (bif Nat.blt k 78 then (bif Nat.blt k 74 then (bif Nat.blt k 72 then (bif Nat.blt k 71 then [] else []) else (bif Nat.blt k 73 then [] else [])) else (bif Nat.blt k 76 then (bif Nat.blt k 75 then [] else []) else (bif Nat.blt k 77 then [] else []))) else (bif Nat.blt k 82 then (bif Nat.blt k 80 then (bif Nat.blt k 79 then [] else []) else (bif Nat.blt k 81 then [] else [])) else (bif Nat.blt k 84 then (bif Nat.blt k 83 then [] else []) else (bif Nat.blt k 85 then [] else (bif Nat.blt k 86 then [] else []))))) else (bif Nat.blt k 96 then (bif Nat.blt k 91 then (bif Nat.blt k 89 then (bif Nat.blt k 88 then [] else []) else (bif Nat.blt k 90 then [] else [])) else (bif Nat.blt k 93 then (bif Nat.blt k 92 then [] else []) else (bif Nat.blt k 94 then [] else (bif Nat.blt k 95 then [] else [])))) else (bif Nat.blt k 100 then (bif Nat.blt k 98 then (bif Nat.blt k 97 then [] else []) else (bif Nat.blt k 99 then [] else [])) else (bif Nat.blt k 102 then (bif Nat.blt k 101 then [] else []) else (bif Nat.blt k 103 then [] else (bif Nat.blt k 104 then [] else [])))))) else (bif Nat.blt k 123 then (bif Nat.blt k 114 then (bif Nat.blt k 109 then (bif Nat.blt k 107 then (bif Nat.blt k 106 then [] else []) else (bif Nat.blt k 108 then [] else [])) else (bif Nat.blt k 111 then (bif Nat.blt k 110 then [] else []) else (bif Nat.blt k 112 then [] else (bif Nat.blt k 113 then [] else [])))) else (bif Nat.blt k 118 then (bif Nat.blt k 116 then (bif Nat.blt k 115 then [] else []) else (bif Nat.blt k 117 then [] else [])) else (bif Nat.blt k 120 then (bif Nat.blt k 119 then [] else []) else (bif Nat.blt k 121 then [] else (bif Nat.blt k 122 then [] else []))))) else (bif Nat.blt k 132 then (bif Nat.blt k 127 then (bif Nat.blt k 125 then (bif Nat.blt k 124 then [] else []) else (bif Nat.blt k 126 then [] else [])) else (bif Nat.blt k 129 then (bif Nat.blt k 128 then [] else []) else (bif Nat.blt k 130 then [] else (bif Nat.blt k 131 then [] else [])))) else (bif Nat.blt k 136 then (bif Nat.blt k 134 then (bif Nat.blt k 133 then [] else []) else (bif Nat.blt k 135 then [] else [])) else (bif Nat.blt k 138 then (bif Nat.blt k 137 then [] else []) else (bif Nat.blt k 139 then [] else (bif Nat.blt k 140 then [] else [])))))))) else (bif Nat.blt k 211 then (bif Nat.blt k 176 then (bif Nat.blt k 158 then (bif Nat.blt k 149 then (bif Nat.blt k 145 then (bif Nat.blt k 143 then (bif Nat.blt k 142 then [] else []) else (bif Nat.blt k 144 then [] else [])) else (bif Nat.blt k 147 then (bif Nat.blt k 146 then [] else []) else (bif Nat.blt k 148 then [] else []))) else (bif Nat.blt k 153 then (bif Nat.blt k 151 then (bif Nat.blt k 150 then [] else []) else (bif Nat.blt k 152 then [] else [])) else (bif Nat.blt k 155 then (bif Nat.blt k 154 then [] else []) else (bif Nat.blt k 156 then [] else (bif Nat.blt k 157 then [] else []))))) else (bif Nat.blt k 167 then (bif Nat.blt k 162 then (bif Nat.blt k 160 then (bif Nat.blt k 159 then [] else []) else (bif Nat.blt k 161 then [] else [])) else (bif Nat.blt k 164 then (bif Nat.blt k 163 then [] else []) else (bif Nat.blt k 165 then [] else (bif Nat.blt k 166 then [] else [])))) else (bif Nat.blt k 171 then (bif Nat.blt k 169 then (bif Nat.blt k 168 then [] else []) else (bif Nat.blt k 170 then [] else [])) else (bif Nat.blt k 173 then (bif Nat.blt k 172 then [] else []) else (bif Nat.blt k 174 then [] else (bif Nat.blt k 175 then [] else [])))))) else (bif Nat.blt k 193 then (bif Nat.blt k 184 then (bif Nat.blt k 180 then (bif Nat.blt k 178 then (bif Nat.blt k 177 then [] else []) else (bif Nat.blt k 179 then [] else [])) else (bif Nat.blt k 182 then (bif Nat.blt k 181 then [] else []) else (bif Nat.blt k 183 then [] else []))) else (bif Nat.blt k 188 then (bif Nat.blt k 186 then (bif Nat.blt k 185 then [] else []) else (bif Nat.blt k 187 then [] else [])) else (bif Nat.blt k 190 then (bif Nat.blt k 189 then [] else []) else (bif Nat.blt k 191 then [] else (bif Nat.blt k 192 then [] else []))))) else (bif Nat.blt k 202 then (bif Nat.blt k 197 then (bif Nat.blt k 195 then (bif Nat.blt k 194 then [] else []) else (bif Nat.blt k 196 then [] else [])) else (bif Nat.blt k 199 then (bif Nat.blt k 198 then [] else []) else (bif Nat.blt k 200 then [] else (bif Nat.blt k 201 then [] else [])))) else (bif Nat.blt k 206 then (bif Nat.blt k 204 then (bif Nat.blt k 203 then [] else []) else (bif Nat.blt k 205 then [] else [])) else (bif Nat.blt k 208 then (bif Nat.blt k 207 then [] else []) else (bif Nat.blt k 209 then [] else (bif Nat.blt k 210 then [] else []))))))) else (bif Nat.blt k 246 then (bif Nat.blt k 228 then (bif Nat.blt k 219 then (bif Nat.blt k 215 then (bif Nat.blt k 213 then (bif Nat.blt k 212 then [] else []) else (bif Nat.blt k 214 then [] else [])) else (bif Nat.blt k 217 then (bif Nat.blt k 216 then [] else []) else (bif Nat.blt k 218 then [] else []))) else (bif Nat.blt k 223 then (bif Nat.blt k 221 then (bif Nat.blt k 220 then [] else []) else (bif Nat.blt k 222 then [] else [])) else (bif Nat.blt k 225 then (bif Nat.blt k 224 then [] else []) else (bif Nat.blt k 226 then [] else (bif Nat.blt k 227 then [] else []))))) else (bif Nat.blt k 237 then (bif Nat.blt k 232 then (bif Nat.blt k 230 then (bif Nat.blt k 229 then [] else []) else (bif Nat.blt k 231 then [] else [])) else (bif Nat.blt k 234 then (bif Nat.blt k 233 then [] else []) else (bif Nat.blt k 235 then [] else (bif Nat.blt k 236 then [] else [])))) else (bif Nat.blt k 241 then (bif Nat.blt k 239 then (bif Nat.blt k 238 then [] else []) else (bif Nat.blt k 240 then [] else [])) else (bif Nat.blt k 243 then (bif Nat.blt k 242 then [] else []) else (bif Nat.blt k 244 then [] else (bif Nat.blt k 245 then [(0, 10, 13, 13), (0, 10, 17, 15)] else [(0, 10, 13, 20), (0, 10, 17, 13), (0, 10, 21, 15)])))))) else (bif Nat.blt k 264 then (bif Nat.blt k 255 then (bif Nat.blt k 250 then (bif Nat.blt k 248 then (bif Nat.blt k 247 then [(0, 12, 15, 20), (0, 12, 19, 13), (0, 12, 23, 15)] else [(0, 9, 12, 30), (0, 9, 15, 15)]) else (bif Nat.blt k 249 then [(0, 9, 12, 30), (0, 9, 15, 15)] else [(0, 9, 12, 30), (0, 9, 15, 15)])) else (bif Nat.blt k 252 then (bif Nat.blt k 251 then [(0, 9, 12, 13)] else [(0, 9, 12, 20)]) else (bif Nat.blt k 253 then [(0, 9, 12, 20)] else (bif Nat.blt k 254 then [(0, 9, 12, 20)] else [(0, 9, 12, 20)])))) else (bif Nat.blt k 259 then (bif Nat.blt k 257 then (bif Nat.blt k 256 then [(0, 16, 19, 20)] else [(0, 9, 12, 20), (0, 9, 15, 30)]) else (bif Nat.blt k 258 then [(0, 10, 13, 20)] else [(0, 10, 13, 20)])) else (bif Nat.blt k 261 then (bif Nat.blt k 260 then [(0, 16, 19, 30)] else [(0, 16, 19, 30)]) else (bif Nat.blt k 262 then [(0, 9, 12, 30), (0, 9, 15, 15)] else (bif Nat.blt k 263 then [(0, 9, 12, 30), (0, 9, 15, 15)] else [(0, 9, 12, 30), (0, 9, 15, 15)]))))) else (bif Nat.blt k 273 then (bif Nat.blt k 268 then (bif Nat.blt k 266 then (bif Nat.blt k 265 then [(0, 9, 12, 30)] else [(0, 9, 12, 30)]) else (bif Nat.blt k 267 then [(0, 9, 12, 30), (0, 9, 15, 15)] else [(0, 9, 12, 30)])) else (bif Nat.blt k 270 then (bif Nat.blt k 269 then [(0, 9, 12, 30)] else [(0, 8, 11, 30)]) else (bif Nat.blt k 271 then [(0, 8, 11, 30)] else (bif Nat.blt k 272 then [(0, 7, 10, 107)] else [(0, 8, 11, 107)])))) else (bif Nat.blt k 277 then (bif Nat.blt k 275 then (bif Nat.blt k 274 then [(0, 9, 12, 15)] else [(0, 8, 11, 13), (0, 8, 14, 120)]) else (bif Nat.blt k 276 then [(0, 8, 11, 30)] else [(0, 8, 11, 30)])) else (bif Nat.blt k 279 then (bif Nat.blt k 278 then [(0, 9, 12, 30)] else [(0, 9, 12, 20)]) else (bif Nat.blt k 280 then [(0, 8, 11, 15)] else (bif Nat.blt k 281 then [(0, 4, 7, 15)] else [])))))))))
/-- the handlers: from, to, handler, which exception, the place of its class link -/
def mexc (k : Nat) : List (Nat × Nat × Nat × Nat × Nat) := (bif Nat.blt k 141 then (bif Nat.blt k 70 then (bif Nat.blt k 35 then (bif Nat.blt k 17 then (bif Nat.blt k 8 then (bif Nat.blt k 4 then (bif Nat.blt k 2 then (bif Nat.blt k 1 then [] else []) else (bif Nat.blt k 3 then [] else [])) else (bif Nat.blt k 6 then (bif Nat.blt k 5 then [] else []) else (bif Nat.blt k 7 then [] else []))) else (bif Nat.blt k 12 then (bif Nat.blt k 10 then (bif Nat.blt k 9 then [] else []) else (bif Nat.blt k 11 then [] else [])) else (bif Nat.blt k 14 then (bif Nat.blt k 13 then [] else []) else (bif Nat.blt k 15 then [] else (bif Nat.blt k 16 then [] else []))))) else (bif Nat.blt k 26 then (bif Nat.blt k 21 then (bif Nat.blt k 19 then (bif Nat.blt k 18 then [] else []) else (bif Nat.blt k 20 then [] else [])) else (bif Nat.blt k 23 then (bif Nat.blt k 22 then [] else []) else (bif Nat.blt k 24 then [] else (bif Nat.blt k 25 then [] else [])))) else (bif Nat.blt k 30 then (bif Nat.blt k 28 then (bif Nat.blt k 27 then [] else []) else (bif Nat.blt k 29 then [] else [])) else (bif Nat.blt k 32 then (bif Nat.blt k 31 then [] else []) else (bif Nat.blt k 33 then [] else (bif Nat.blt k 34 then [] else [])))))) else (bif Nat.blt k 52 then (bif Nat.blt k 43 then (bif Nat.blt k 39 then (bif Nat.blt k 37 then (bif Nat.blt k 36 then [] else []) else (bif Nat.blt k 38 then [] else [])) else (bif Nat.blt k 41 then (bif Nat.blt k 40 then [] else []) else (bif Nat.blt k 42 then [] else []))) else (bif Nat.blt k 47 then (bif Nat.blt k 45 then (bif Nat.blt k 44 then [] else []) else (bif Nat.blt k 46 then [] else [])) else (bif Nat.blt k 49 then (bif Nat.blt k 48 then [] else []) else (bif Nat.blt k 50 then [] else (bif Nat.blt k 51 then [] else []))))) else (bif Nat.blt k 61 then (bif Nat.blt k 56 then (bif Nat.blt k 54 then (bif Nat.blt k 53 then [] else []) else (bif Nat.blt k 55 then [] else [])) else (bif Nat.blt k 58 then (bif Nat.blt k 57 then [] else []) else (bif Nat.blt k 59 then [] else (bif Nat.blt k 60 then [] else [])))) else (bif Nat.blt k 65 then (bif Nat.blt k 63 then (bif Nat.blt k 62 then [] else []) else (bif Nat.blt k 64 then [] else [])) else (bif Nat.blt k 67 then (bif Nat.blt k 66 then [] else []) else (bif Nat.blt k 68 then [] else (bif Nat.blt k 69 then [] else []))))))) else (bif Nat.blt k 105 then (bif Nat.blt k 87 then (bif Nat.blt k 78 then (bif Nat.blt k 74 then (bif Nat.blt k 72 then (bif Nat.blt k 71 then [] else []) else (bif Nat.blt k 73 then [] else [])) else (bif Nat.blt k 76 then (bif Nat.blt k 75 then [] else []) else (bif Nat.blt k 77 then [] else []))) else (bif Nat.blt k 82 then (bif Nat.blt k 80 then (bif Nat.blt k 79 then [] else []) else (bif Nat.blt k 81 then [] else [])) else (bif Nat.blt k 84 then (bif Nat.blt k 83 then [] else []) else (bif Nat.blt k 85 then [] else (bif Nat.blt k 86 then [] else []))))) else (bif Nat.blt k 96 then (bif Nat.blt k 91 then (bif Nat.blt k 89 then (bif Nat.blt k 88 then [] else []) else (bif Nat.blt k 90 then [] else [])) else (bif Nat.blt k 93 then (bif Nat.blt k 92 then [] else []) else (bif Nat.blt k 94 then [] else (bif Nat.blt k 95 then [] else [])))) else (bif Nat.blt k 100 then (bif Nat.blt k 98 then (bif Nat.blt k 97 then [] else []) else (bif Nat.blt k 99 then [] else [])) else (bif Nat.blt k 102 then (bif Nat.blt k 101 then [] else []) else (bif Nat.blt k 103 then [] else (bif Nat.blt k 104 then [] else [])))))) else (bif Nat.blt k 123 then (bif Nat.blt k 114 then (bif Nat.blt k 109 then (bif Nat.blt k 107 then (bif Nat.blt k 106 then [] else []) else (bif Nat.blt k 108 then [] else [])) else (bif Nat.blt k 111 then (bif Nat.blt k 110 then [] else []) else (bif Nat.blt k 112 then [] else (bif Nat.blt k 113 then [] else [])))) else (bif Nat.blt k 118 then (bif Nat.blt k 116 then (bif Nat.blt k 115 then [] else []) else (bif Nat.blt k 117 then [] else [])) else (bif Nat.blt k 120 then (bif Nat.blt k 119 then [] else []) else (bif Nat.blt k 121 then [] else (bif Nat.blt k 122 then [] else []))))) else (bif Nat.blt k 132 then (bif Nat.blt k 127 then (bif Nat.blt k 125 then (bif Nat.blt k 124 then [] else []) else (bif Nat.blt k 126 then [] else [])) else (bif Nat.blt k 129 then (bif Nat.blt k 128 then [] else []) else (bif Nat.blt k 130 then [] else (bif Nat.blt k 131 then [] else [])))) else (bif Nat.blt k 136 then (bif Nat.blt k 134 then (bif Nat.blt k 133 then [] else []) else (bif Nat.blt k 135 then [] else [])) else (bif Nat.blt k 138 then (bif Nat.blt k 137 then [] else []) else (bif Nat.blt k 139 then [] else (bif Nat.blt k 140 then [] else [])))))))) else (bif Nat.blt k 211 then (bif Nat.blt k 176 then (bif Nat.blt k 158 then (bif Nat.blt k 149 then (bif Nat.blt k 145 then (bif Nat.blt k 143 then (bif Nat.blt k 142 then [] else []) else (bif Nat.blt k 144 then [] else [])) else (bif Nat.blt k 147 then (bif Nat.blt k 146 then [] else []) else (bif Nat.blt k 148 then [] else []))) else (bif Nat.blt k 153 then (bif Nat.blt k 151 then (bif Nat.blt k 150 then [] else []) else (bif Nat.blt k 152 then [] else [])) else (bif Nat.blt k 155 then (bif Nat.blt k 154 then [] else []) else (bif Nat.blt k 156 then [] else (bif Nat.blt k 157 then [] else []))))) else (bif Nat.blt k 167 then (bif Nat.blt k 162 then (bif Nat.blt k 160 then (bif Nat.blt k 159 then [] else []) else (bif Nat.blt k 161 then [] else [])) else (bif Nat.blt k 164 then (bif Nat.blt k 163 then [] else []) else (bif Nat.blt k 165 then [] else (bif Nat.blt k 166 then [] else [])))) else (bif Nat.blt k 171 then (bif Nat.blt k 169 then (bif Nat.blt k 168 then [] else []) else (bif Nat.blt k 170 then [] else [])) else (bif Nat.blt k 173 then (bif Nat.blt k 172 then [] else []) else (bif Nat.blt k 174 then [] else (bif Nat.blt k 175 then [] else [])))))) else (bif Nat.blt k 193 then (bif Nat.blt k 184 then (bif Nat.blt k 180 then (bif Nat.blt k 178 then (bif Nat.blt k 177 then [] else []) else (bif Nat.blt k 179 then [] else [])) else (bif Nat.blt k 182 then (bif Nat.blt k 181 then [] else []) else (bif Nat.blt k 183 then [] else []))) else (bif Nat.blt k 188 then (bif Nat.blt k 186 then (bif Nat.blt k 185 then [] else []) else (bif Nat.blt k 187 then [] else [])) else (bif Nat.blt k 190 then (bif Nat.blt k 189 then [] else []) else (bif Nat.blt k 191 then [] else (bif Nat.blt k 192 then [] else []))))) else (bif Nat.blt k 202 then (bif Nat.blt k 197 then (bif Nat.blt k 195 then (bif Nat.blt k 194 then [] else []) else (bif Nat.blt k 196 then [] else [])) else (bif Nat.blt k 199 then (bif Nat.blt k 198 then [] else []) else (bif Nat.blt k 200 then [] else (bif Nat.blt k 201 then [] else [])))) else (bif Nat.blt k 206 then (bif Nat.blt k 204 then (bif Nat.blt k 203 then [] else []) else (bif Nat.blt k 205 then [] else [])) else (bif Nat.blt k 208 then (bif Nat.blt k 207 then [] else []) else (bif Nat.blt k 209 then [] else (bif Nat.blt k 210 then [] else []))))))) else (bif Nat.blt k 246 then (bif Nat.blt k 228 then (bif Nat.blt k 219 then (bif Nat.blt k 215 then (bif Nat.blt k 213 then (bif Nat.blt k 212 then [] else []) else (bif Nat.blt k 214 then [] else [])) else (bif Nat.blt k 217 then (bif Nat.blt k 216 then [] else []) else (bif Nat.blt k 218 then [] else []))) else (bif Nat.blt k 223 then (bif Nat.blt k 221 then (bif Nat.blt k 220 then [] else []) else (bif Nat.blt k 222 then [] else [])) else (bif Nat.blt k 225 then (bif Nat.blt k 224 then [] else []) else (bif Nat.blt k 226 then [] else (bif Nat.blt k 227 then [] else []))))) else (bif Nat.blt k 237 then (bif Nat.blt k 232 then (bif Nat.blt k 230 then (bif Nat.blt k 229 then [] else []) else (bif Nat.blt k 231 then [] else [])) else (bif Nat.blt k 234 then (bif Nat.blt k 233 then [] else []) else (bif Nat.blt k 235 then [] else (bif Nat.blt k 236 then [] else [])))) else (bif Nat.blt k 241 then (bif Nat.blt k 239 then (bif Nat.blt k 238 then [] else []) else (bif Nat.blt k 240 then [] else [])) else (bif Nat.blt k 243 then (bif Nat.blt k 242 then [] else []) else (bif Nat.blt k 244 then [] else (bif Nat.blt k 245 then [(0, 10, 13, 1, 926), (0, 10, 17, 2, 927)] else [(0, 10, 13, 0, 1044), (0, 10, 17, 1, 926), (0, 10, 21, 2, 927)])))))) else (bif Nat.blt k 264 then (bif Nat.blt k 255 then (bif Nat.blt k 250 then (bif Nat.blt k 248 then (bif Nat.blt k 247 then [(0, 12, 15, 0, 1044), (0, 12, 19, 1, 926), (0, 12, 23, 2, 927)] else [(0, 9, 12, 3, 1065), (0, 9, 15, 2, 927)]) else (bif Nat.blt k 249 then [(0, 9, 12, 3, 1065), (0, 9, 15, 2, 927)] else [(0, 9, 12, 3, 1065), (0, 9, 15, 2, 927)])) else (bif Nat.blt k 252 then (bif Nat.blt k 251 then [(0, 9, 12, 1, 926)] else [(0, 9, 12, 0, 1044)]) else (bif Nat.blt k 253 then [(0, 9, 12, 0, 1044)] else (bif Nat.blt k 254 then [(0, 9, 12, 0, 1044)] else [(0, 9, 12, 0, 1044)])))) else (bif Nat.blt k 259 then (bif Nat.blt k 257 then (bif Nat.blt k 256 then [(0, 16, 19, 0, 1044)] else [(0, 9, 12, 0, 1044), (0, 9, 15, 3, 1065)]) else (bif Nat.blt k 258 then [(0, 10, 13, 0, 1044)] else [(0, 10, 13, 0, 1044)])) else (bif Nat.blt k 261 then (bif Nat.blt k 260 then [(0, 16, 19, 3, 1065)] else [(0, 16, 19, 3, 1065)]) else (bif Nat.blt k 262 then [(0, 9, 12, 3, 1065), (0, 9, 15, 2, 927)] else (bif Nat.blt k 263 then [(0, 9, 12, 3, 1065), (0, 9, 15, 2, 927)] else [(0, 9, 12, 3, 1065), (0, 9, 15, 2, 927)]))))) else (bif Nat.blt k 273 then (bif Nat.blt k 268 then (bif Nat.blt k 266 then (bif Nat.blt k 265 then [(0, 9, 12, 3, 1065)] else [(0, 9, 12, 3, 1065)]) else (bif Nat.blt k 267 then [(0, 9, 12, 3, 1065), (0, 9, 15, 2, 927)] else [(0, 9, 12, 3, 1065)])) else (bif Nat.blt k 270 then (bif Nat.blt k 269 then [(0, 9, 12, 3, 1065)] else [(0, 8, 11, 3, 1065)]) else (bif Nat.blt k 271 then [(0, 8, 11, 3, 1065)] else (bif Nat.blt k 272 then [(0, 7, 10, 4, 1289)] else [(0, 8, 11, 4, 1289)])))) else (bif Nat.blt k 277 then (bif Nat.blt k 275 then (bif Nat.blt k 274 then [(0, 9, 12, 2, 927)] else [(0, 8, 11, 1, 926), (0, 8, 14, 5, 1336)]) else (bif Nat.blt k 276 then [(0, 8, 11, 3, 1065)] else [(0, 8, 11, 3, 1065)])) else (bif Nat.blt k 279 then (bif Nat.blt k 278 then [(0, 9, 12, 3, 1065)] else [(0, 9, 12, 0, 1044)]) else (bif Nat.blt k 280 then [(0, 8, 11, 2, 927)] else (bif Nat.blt k 281 then [(0, 4, 7, 2, 927)] else [])))))))))
/-- the places of the words: code, initialized class, static or instance -/
def mpos (k : Nat) : Nat × Nat × Nat := (bif Nat.blt k 141 then (bif Nat.blt k 70 then (bif Nat.blt k 35 then (bif Nat.blt k 17 then (bif Nat.blt k 8 then (bif Nat.blt k 4 then (bif Nat.blt k 2 then (bif Nat.blt k 1 then (307, 86, 306) else (569, 86, 568)) else (bif Nat.blt k 3 then (573, 86, 572) else (546, 86, 545))) else (bif Nat.blt k 6 then (bif Nat.blt k 5 then (1463, 86, 1462) else (892, 86, 891)) else (bif Nat.blt k 7 then (675, 86, 674) else (599, 86, 596)))) else (bif Nat.blt k 12 then (bif Nat.blt k 10 then (bif Nat.blt k 9 then (719, 86, 713) else (954, 81, 953)) else (bif Nat.blt k 11 then (681, 110, 680) else (678, 110, 677))) else (bif Nat.blt k 14 then (bif Nat.blt k 13 then (1039, 93, 1038) else (629, 88, 627)) else (bif Nat.blt k 15 then (1367, 88, 1365) else (bif Nat.blt k 16 then (633, 88, 631) else (1371, 88, 1369)))))) else (bif Nat.blt k 26 then (bif Nat.blt k 21 then (bif Nat.blt k 19 then (bif Nat.blt k 18 then (904, 88, 903) else (304, 87, 303)) else (bif Nat.blt k 20 then (889, 87, 887) else (672, 87, 670))) else (bif Nat.blt k 23 then (bif Nat.blt k 22 then (1460, 87, 1458) else (543, 87, 541)) else (bif Nat.blt k 24 then (717, 87, 716) else (bif Nat.blt k 25 then (1374, 103, 1373) else (895, 103, 894))))) else (bif Nat.blt k 30 then (bif Nat.blt k 28 then (bif Nat.blt k 27 then (585, 108, 584) else (907, 104, 906)) else (bif Nat.blt k 29 then (576, 107, 575) else (250, 83, 249))) else (bif Nat.blt k 32 then (bif Nat.blt k 31 then (941, 83, 939) else (1409, 83, 1407)) else (bif Nat.blt k 33 then (1036, 83, 1034) else (bif Nat.blt k 34 then (1478, 83, 1476) else (123, 79, 122))))))) else (bif Nat.blt k 52 then (bif Nat.blt k 43 then (bif Nat.blt k 39 then (bif Nat.blt k 37 then (bif Nat.blt k 36 then (388, 79, 386) else (946, 79, 944)) else (bif Nat.blt k 38 then (958, 79, 957) else (965, 79, 964))) else (bif Nat.blt k 41 then (bif Nat.blt k 40 then (969, 79, 968) else (973, 79, 972)) else (bif Nat.blt k 42 then (977, 79, 976) else (981, 79, 980)))) else (bif Nat.blt k 47 then (bif Nat.blt k 45 then (bif Nat.blt k 44 then (430, 79, 429) else (403, 79, 402)) else (bif Nat.blt k 46 then (407, 79, 406) else (417, 79, 416))) else (bif Nat.blt k 49 then (bif Nat.blt k 48 then (435, 79, 434) else (446, 79, 445)) else (bif Nat.blt k 50 then (458, 79, 457) else (bif Nat.blt k 51 then (450, 79, 449) else (529, 79, 527)))))) else (bif Nat.blt k 61 then (bif Nat.blt k 56 then (bif Nat.blt k 54 then (bif Nat.blt k 53 then (534, 79, 532) else (399, 79, 397)) else (bif Nat.blt k 55 then (521, 79, 519) else (514, 79, 512))) else (bif Nat.blt k 58 then (bif Nat.blt k 57 then (469, 79, 467) else (961, 79, 960)) else (bif Nat.blt k 59 then (376, 79, 374) else (bif Nat.blt k 60 then (411, 79, 409) else (441, 79, 439))))) else (bif Nat.blt k 65 then (bif Nat.blt k 63 then (bif Nat.blt k 62 then (506, 79, 504) else (510, 79, 508)) else (bif Nat.blt k 64 then (525, 79, 523) else (1261, 79, 1259))) else (bif Nat.blt k 67 then (bif Nat.blt k 66 then (494, 79, 492) else (498, 79, 496)) else (bif Nat.blt k 68 then (502, 79, 500) else (bif Nat.blt k 69 then (270, 84, 269) else (1326, 84, 1324)))))))) else (bif Nat.blt k 105 then (bif Nat.blt k 87 then (bif Nat.blt k 78 then (bif Nat.blt k 74 then (bif Nat.blt k 72 then (bif Nat.blt k 71 then (1331, 84, 1329) else (1399, 84, 1397)) else (bif Nat.blt k 73 then (1352, 84, 1350) else (1348, 84, 1346))) else (bif Nat.blt k 76 then (bif Nat.blt k 75 then (1405, 84, 1403) else (1356, 84, 1355)) else (bif Nat.blt k 77 then (1362, 84, 1361) else (1382, 84, 1381)))) else (bif Nat.blt k 82 then (bif Nat.blt k 80 then (bif Nat.blt k 79 then (1386, 84, 1385) else (1390, 84, 1389)) else (bif Nat.blt k 81 then (1394, 84, 1393) else (130, 80, 129))) else (bif Nat.blt k 84 then (bif Nat.blt k 83 then (380, 80, 378) else (917, 80, 915)) else (bif Nat.blt k 85 then (462, 80, 460) else (bif Nat.blt k 86 then (421, 80, 419) else (473, 80, 471)))))) else (bif Nat.blt k 96 then (bif Nat.blt k 91 then (bif Nat.blt k 89 then (bif Nat.blt k 88 then (454, 80, 452) else (1265, 80, 1263)) else (bif Nat.blt k 90 then (395, 80, 393) else (115, 78, 114))) else (bif Nat.blt k 93 then (bif Nat.blt k 92 then (931, 78, 929) else (1050, 78, 1048)) else (bif Nat.blt k 94 then (1059, 78, 1057) else (bif Nat.blt k 95 then (1069, 78, 1067) else (1078, 78, 1076))))) else (bif Nat.blt k 100 then (bif Nat.blt k 98 then (bif Nat.blt k 97 then (1087, 78, 1085) else (1096, 78, 1094)) else (bif Nat.blt k 99 then (937, 78, 936) else (984, 78, 983))) else (bif Nat.blt k 102 then (bif Nat.blt k 101 then (364, 78, 362) else (1104, 78, 1102)) else (bif Nat.blt k 103 then (1116, 78, 1114) else (bif Nat.blt k 104 then (1124, 78, 1122) else (1131, 78, 1129))))))) else (bif Nat.blt k 123 then (bif Nat.blt k 114 then (bif Nat.blt k 109 then (bif Nat.blt k 107 then (bif Nat.blt k 106 then (1144, 78, 1142) else (1151, 78, 1149)) else (bif Nat.blt k 108 then (1159, 78, 1157) else (1167, 78, 1165))) else (bif Nat.blt k 111 then (bif Nat.blt k 110 then (1108, 78, 1107) else (1135, 78, 1134)) else (bif Nat.blt k 112 then (368, 78, 366) else (bif Nat.blt k 113 then (372, 78, 370) else (1175, 78, 1173))))) else (bif Nat.blt k 118 then (bif Nat.blt k 116 then (bif Nat.blt k 115 then (1187, 78, 1185) else (1194, 78, 1192)) else (bif Nat.blt k 117 then (1203, 78, 1201) else (1216, 78, 1214))) else (bif Nat.blt k 120 then (bif Nat.blt k 119 then (1223, 78, 1221) else (1230, 78, 1228)) else (bif Nat.blt k 121 then (1237, 78, 1235) else (bif Nat.blt k 122 then (1248, 78, 1246) else (384, 78, 382)))))) else (bif Nat.blt k 132 then (bif Nat.blt k 127 then (bif Nat.blt k 125 then (bif Nat.blt k 124 then (1256, 78, 1254) else (1179, 78, 1178)) else (bif Nat.blt k 126 then (1207, 78, 1206) else (478, 78, 476))) else (bif Nat.blt k 129 then (bif Nat.blt k 128 then (482, 78, 480) else (1273, 78, 1271)) else (bif Nat.blt k 130 then (486, 78, 484) else (bif Nat.blt k 131 then (1285, 78, 1283) else (1306, 78, 1304))))) else (bif Nat.blt k 136 then (bif Nat.blt k 134 then (bif Nat.blt k 133 then (1315, 78, 1313) else (490, 78, 488)) else (bif Nat.blt k 135 then (1277, 78, 1276) else (1322, 78, 1320))) else (bif Nat.blt k 138 then (bif Nat.blt k 137 then (1340, 78, 1338) else (1432, 78, 1430)) else (bif Nat.blt k 139 then (1440, 78, 1438) else (bif Nat.blt k 140 then (1344, 78, 1343) else (539, 78, 537))))))))) else (bif Nat.blt k 211 then (bif Nat.blt k 176 then (bif Nat.blt k 158 then (bif Nat.blt k 149 then (bif Nat.blt k 145 then (bif Nat.blt k 143 then (bif Nat.blt k 142 then (1448, 78, 1446) else (1455, 78, 1453)) else (bif Nat.blt k 144 then (913, 78, 912) else (884, 78, 883))) else (bif Nat.blt k 147 then (bif Nat.blt k 146 then (1473, 78, 1471) else (922, 78, 920)) else (bif Nat.blt k 148 then (1485, 78, 1483) else (1491, 90, 1490)))) else (bif Nat.blt k 153 then (bif Nat.blt k 151 then (bif Nat.blt k 150 then (1566, 90, 1564) else (1587, 90, 1586)) else (bif Nat.blt k 152 then (1582, 90, 1581) else (1574, 90, 1573))) else (bif Nat.blt k 155 then (bif Nat.blt k 154 then (1591, 90, 1590) else (1614, 90, 1613)) else (bif Nat.blt k 156 then (1603, 90, 1602) else (bif Nat.blt k 157 then (1751, 90, 1750) else (1643, 90, 1642)))))) else (bif Nat.blt k 167 then (bif Nat.blt k 162 then (bif Nat.blt k 160 then (bif Nat.blt k 159 then (1622, 90, 1621) else (1618, 90, 1617)) else (bif Nat.blt k 161 then (1684, 90, 1683) else (1611, 90, 1610))) else (bif Nat.blt k 164 then (bif Nat.blt k 163 then (1607, 90, 1606) else (1711, 90, 1710)) else (bif Nat.blt k 165 then (1696, 90, 1695) else (bif Nat.blt k 166 then (1692, 90, 1691) else (1663, 90, 1662))))) else (bif Nat.blt k 171 then (bif Nat.blt k 169 then (bif Nat.blt k 168 then (1578, 90, 1577) else (1570, 90, 1568)) else (bif Nat.blt k 170 then (1599, 90, 1598) else (1595, 90, 1593))) else (bif Nat.blt k 173 then (bif Nat.blt k 172 then (1630, 90, 1629) else (1626, 90, 1624)) else (bif Nat.blt k 174 then (1647, 90, 1646) else (bif Nat.blt k 175 then (1639, 90, 1638) else (1635, 90, 1633))))))) else (bif Nat.blt k 193 then (bif Nat.blt k 184 then (bif Nat.blt k 180 then (bif Nat.blt k 178 then (bif Nat.blt k 177 then (1651, 90, 1649) else (1659, 90, 1658)) else (bif Nat.blt k 179 then (1655, 90, 1653) else (1719, 90, 1718))) else (bif Nat.blt k 182 then (bif Nat.blt k 181 then (1703, 90, 1702) else (1688, 90, 1687)) else (bif Nat.blt k 183 then (1680, 90, 1679) else (1707, 90, 1706)))) else (bif Nat.blt k 188 then (bif Nat.blt k 186 then (bif Nat.blt k 185 then (1723, 90, 1722) else (1715, 90, 1714)) else (bif Nat.blt k 187 then (1676, 90, 1675) else (1671, 90, 1670))) else (bif Nat.blt k 190 then (bif Nat.blt k 189 then (1667, 90, 1665) else (1731, 90, 1730)) else (bif Nat.blt k 191 then (1727, 90, 1725) else (bif Nat.blt k 192 then (1735, 90, 1733) else (1739, 90, 1737)))))) else (bif Nat.blt k 202 then (bif Nat.blt k 197 then (bif Nat.blt k 195 then (bif Nat.blt k 194 then (1743, 90, 1741) else (1747, 90, 1745)) else (bif Nat.blt k 196 then (1755, 90, 1753) else (1759, 90, 1757))) else (bif Nat.blt k 199 then (bif Nat.blt k 198 then (1763, 90, 1761) else (1767, 90, 1765)) else (bif Nat.blt k 200 then (1772, 90, 1770) else (bif Nat.blt k 201 then (1776, 90, 1774) else (1784, 90, 1783))))) else (bif Nat.blt k 206 then (bif Nat.blt k 204 then (bif Nat.blt k 203 then (1780, 90, 1778) else (1788, 90, 1786)) else (bif Nat.blt k 205 then (1796, 90, 1795) else (1792, 90, 1790))) else (bif Nat.blt k 208 then (bif Nat.blt k 207 then (1800, 90, 1798) else (1804, 90, 1802)) else (bif Nat.blt k 209 then (1808, 90, 1806) else (bif Nat.blt k 210 then (1812, 90, 1810) else (1816, 90, 1814)))))))) else (bif Nat.blt k 246 then (bif Nat.blt k 228 then (bif Nat.blt k 219 then (bif Nat.blt k 215 then (bif Nat.blt k 213 then (bif Nat.blt k 212 then (1824, 90, 1823) else (1828, 90, 1827)) else (bif Nat.blt k 214 then (1820, 90, 1818) else (1832, 90, 1830))) else (bif Nat.blt k 217 then (bif Nat.blt k 216 then (1836, 90, 1834) else (1840, 90, 1838)) else (bif Nat.blt k 218 then (1844, 90, 1842) else (1848, 90, 1846)))) else (bif Nat.blt k 223 then (bif Nat.blt k 221 then (bif Nat.blt k 220 then (1852, 90, 1850) else (1856, 90, 1854)) else (bif Nat.blt k 222 then (1860, 90, 1858) else (1864, 90, 1862))) else (bif Nat.blt k 225 then (bif Nat.blt k 224 then (1868, 90, 1866) else (1872, 90, 1870)) else (bif Nat.blt k 226 then (1900, 90, 1899) else (bif Nat.blt k 227 then (1906, 90, 1905) else (1896, 90, 1895)))))) else (bif Nat.blt k 237 then (bif Nat.blt k 232 then (bif Nat.blt k 230 then (bif Nat.blt k 229 then (1892, 90, 1891) else (1884, 90, 1883)) else (bif Nat.blt k 231 then (1888, 90, 1887) else (1880, 90, 1879))) else (bif Nat.blt k 234 then (bif Nat.blt k 233 then (1910, 90, 1909) else (1876, 90, 1874)) else (bif Nat.blt k 235 then (1914, 90, 1912) else (bif Nat.blt k 236 then (1918, 90, 1916) else (1926, 90, 1925))))) else (bif Nat.blt k 241 then (bif Nat.blt k 239 then (bif Nat.blt k 238 then (1930, 90, 1929) else (1922, 90, 1920)) else (bif Nat.blt k 240 then (1934, 90, 1932) else (1938, 90, 1936))) else (bif Nat.blt k 243 then (bif Nat.blt k 242 then (1942, 90, 1940) else (1946, 90, 1944)) else (bif Nat.blt k 244 then (1950, 90, 1948) else (bif Nat.blt k 245 then (925, 77, 924) else (1043, 77, 1042))))))) else (bif Nat.blt k 264 then (bif Nat.blt k 255 then (bif Nat.blt k 250 then (bif Nat.blt k 248 then (bif Nat.blt k 247 then (1055, 77, 1054) else (1064, 77, 1063)) else (bif Nat.blt k 249 then (1074, 77, 1073) else (1083, 77, 1082))) else (bif Nat.blt k 252 then (bif Nat.blt k 251 then (1092, 77, 1091) else (1100, 77, 1099)) else (bif Nat.blt k 253 then (1112, 77, 1111) else (bif Nat.blt k 254 then (1120, 77, 1119) else (1127, 77, 1126))))) else (bif Nat.blt k 259 then (bif Nat.blt k 257 then (bif Nat.blt k 256 then (1140, 77, 1139) else (1147, 77, 1146)) else (bif Nat.blt k 258 then (1155, 77, 1154) else (1163, 77, 1162))) else (bif Nat.blt k 261 then (bif Nat.blt k 260 then (1171, 77, 1170) else (1183, 77, 1182)) else (bif Nat.blt k 262 then (1190, 77, 1189) else (bif Nat.blt k 263 then (1199, 77, 1198) else (1212, 77, 1211)))))) else (bif Nat.blt k 273 then (bif Nat.blt k 268 then (bif Nat.blt k 266 then (bif Nat.blt k 265 then (1219, 77, 1218) else (1226, 77, 1225)) else (bif Nat.blt k 267 then (1233, 77, 1232) else (1244, 77, 1243))) else (bif Nat.blt k 270 then (bif Nat.blt k 269 then (1252, 77, 1251) else (1269, 77, 1268)) else (bif Nat.blt k 271 then (1281, 77, 1280) else (bif Nat.blt k 272 then (1288, 77, 1287) else (1311, 77, 1310))))) else (bif Nat.blt k 277 then (bif Nat.blt k 275 then (bif Nat.blt k 274 then (1318, 77, 1317) else (1335, 77, 1334)) else (bif Nat.blt k 276 then (1428, 77, 1427) else (1436, 77, 1435))) else (bif Nat.blt k 279 then (bif Nat.blt k 278 then (1444, 77, 1443) else (1451, 77, 1450)) else (bif Nat.blt k 280 then (1469, 77, 1468) else (bif Nat.blt k 281 then (1481, 77, 1480) else (0, 77, 0))))))))))
