/-! THE START: what the law finds, as the pure machine's constants. -/
def prem : List Cond := flatC (Jvm.Cond.and given_1 narrow_1)
def cTs : List Term := [.arg 0,
  .static "SingleTrackLine$Place" "ABSENT" "LSingleTrackLine$Place;",
  .static "SingleTrackLine$Place" "EXPECTED" "LSingleTrackLine$Place;",
  .static "SingleTrackLine$Place" "AT_STATION" "LSingleTrackLine$Place;",
  .static "SingleTrackLine$Place" "IN_SECTION" "LSingleTrackLine$Place;",
  .static "SingleTrackLine$Command" "STATION" "LSingleTrackLine$Command;",
  .static "SingleTrackLine$Command" "TRACKS" "LSingleTrackLine$Command;",
  .static "SingleTrackLine$Command" "TRAIN" "LSingleTrackLine$Command;",
  .static "SingleTrackLine$Command" "HOLD" "LSingleTrackLine$Command;",
  .static "SingleTrackLine$Command" "GO" "LSingleTrackLine$Command;",
  .static "SingleTrackLine$Command" "CANCEL" "LSingleTrackLine$Command;",
  .static "SingleTrackLine$Command" "WAIT" "LSingleTrackLine$Command;",
  .static "SingleTrackLine" "COMMANDS" "[LSingleTrackLine$Command;",
  .static "SingleTrackLine$1" "$SwitchMap$SingleTrackLine$Command" "[I",
  .string "SingleTrackLine$Command" 49,
  .string "SingleTrackLine$Command" 55,
  .string "SingleTrackLine$Command" 58,
  .string "SingleTrackLine$Command" 61,
  .string "SingleTrackLine$Command" 64,
  .string "SingleTrackLine$Command" 67,
  .string "SingleTrackLine$Command" 70,
  .field (.string "SingleTrackLine$Command" 49) "java/lang/String" "value" "[B",
  .field (.string "SingleTrackLine$Command" 55) "java/lang/String" "value" "[B",
  .field (.string "SingleTrackLine$Command" 58) "java/lang/String" "value" "[B",
  .field (.string "SingleTrackLine$Command" 61) "java/lang/String" "value" "[B",
  .field (.string "SingleTrackLine$Command" 64) "java/lang/String" "value" "[B",
  .field (.string "SingleTrackLine$Command" 67) "java/lang/String" "value" "[B",
  .field (.string "SingleTrackLine$Command" 70) "java/lang/String" "value" "[B",
  .static "java/lang/Integer" "DigitOnes" "[B",
  .static "java/lang/Integer" "DigitTens" "[B"]
def cTm (a : Nat) : Term := cTs.getD a .null
def cOs : List PO := [(9, []),
  (9, []),
  (9, []),
  (9, []),
  (8, [.int 0, .ref 14]),
  (8, [.int 1, .ref 15]),
  (8, [.int 2, .ref 16]),
  (8, [.int 3, .ref 17]),
  (8, [.int 4, .ref 18]),
  (8, [.int 5, .ref 19]),
  (8, [.int 6, .ref 20]),
  (107, [.ref 5, .ref 6, .ref 7, .ref 8, .ref 9, .ref 10, .ref 11]),
  (100, [.int 1, .int 2, .int 3, .int 4, .int 5, .int 6, .int 0]),
  (7, [.ref 21, .int 0]),
  (7, [.ref 22, .int 0]),
  (7, [.ref 23, .int 0]),
  (7, [.ref 24, .int 0]),
  (7, [.ref 25, .int 0]),
  (7, [.ref 26, .int 0]),
  (7, [.ref 27, .int 0]),
  (102, [.int 115, .int 116, .int 97, .int 116, .int 105, .int 111, .int 110, .int 32, .int 35, .int 32, .int 37]),
  (102, [.int 116, .int 114, .int 97, .int 99, .int 107, .int 115, .int 32, .int 35, .int 32, .int 35]),
  (102, [.int 116, .int 114, .int 97, .int 105, .int 110, .int 32, .int 35, .int 32, .int 35, .int 32, .int 37]),
  (102, [.int 104, .int 111, .int 108, .int 100, .int 32, .int 37]),
  (102, [.int 103, .int 111, .int 32, .int 37]),
  (102, [.int 99, .int 97, .int 110, .int 99, .int 101, .int 108, .int 32, .int 37]),
  (102, [.int 119, .int 97, .int 105, .int 116, .int 32, .int 37]),
  (102, [.int 48, .int 49, .int 50, .int 51, .int 52, .int 53, .int 54, .int 55, .int 56, .int 57, .int 48, .int 49, .int 50, .int 51, .int 52, .int 53, .int 54, .int 55, .int 56, .int 57, .int 48, .int 49, .int 50, .int 51, .int 52, .int 53, .int 54, .int 55, .int 56, .int 57, .int 48, .int 49, .int 50, .int 51, .int 52, .int 53, .int 54, .int 55, .int 56, .int 57, .int 48, .int 49, .int 50, .int 51, .int 52, .int 53, .int 54, .int 55, .int 56, .int 57, .int 48, .int 49, .int 50, .int 51, .int 52, .int 53, .int 54, .int 55, .int 56, .int 57, .int 48, .int 49, .int 50, .int 51, .int 52, .int 53, .int 54, .int 55, .int 56, .int 57, .int 48, .int 49, .int 50, .int 51, .int 52, .int 53, .int 54, .int 55, .int 56, .int 57, .int 48, .int 49, .int 50, .int 51, .int 52, .int 53, .int 54, .int 55, .int 56, .int 57, .int 48, .int 49, .int 50, .int 51, .int 52, .int 53, .int 54, .int 55, .int 56, .int 57]),
  (102, [.int 48, .int 48, .int 48, .int 48, .int 48, .int 48, .int 48, .int 48, .int 48, .int 48, .int 49, .int 49, .int 49, .int 49, .int 49, .int 49, .int 49, .int 49, .int 49, .int 49, .int 50, .int 50, .int 50, .int 50, .int 50, .int 50, .int 50, .int 50, .int 50, .int 50, .int 51, .int 51, .int 51, .int 51, .int 51, .int 51, .int 51, .int 51, .int 51, .int 51, .int 52, .int 52, .int 52, .int 52, .int 52, .int 52, .int 52, .int 52, .int 52, .int 52, .int 53, .int 53, .int 53, .int 53, .int 53, .int 53, .int 53, .int 53, .int 53, .int 53, .int 54, .int 54, .int 54, .int 54, .int 54, .int 54, .int 54, .int 54, .int 54, .int 54, .int 55, .int 55, .int 55, .int 55, .int 55, .int 55, .int 55, .int 55, .int 55, .int 55, .int 56, .int 56, .int 56, .int 56, .int 56, .int 56, .int 56, .int 56, .int 56, .int 56, .int 57, .int 57, .int 57, .int 57, .int 57, .int 57, .int 57, .int 57, .int 57, .int 57])]
def hcx (xs : List Int32) : PH := fun a => if a = 0 then some (100, xs.map .int) else cOs[a - 1]?
def tvb (t : Term) (v : Value) : Bool := match v with
  | .int x => decide (t = .int x)
  | .ref a => Nat.blt 0 a && Nat.blt a 30 && decide (t = cTm a)
  | _ => false
/-- an array's words stand from place p on; o: words between its length and its elements -/
def chA (a p o : Nat) : Bool := match cOs[a - 1]? with
  | some (c, vs) => Nat.ble 100 c && Nat.blt c 108 && decide (prem[p]? = some (.arrayOf (cTm a) (aty c))) && decide (prem[p + 1]? = some (.eq (.length (cTm a)) (.int (Int32.ofNat vs.length)))) && Nat.blt vs.length 1000 &&
    (List.range vs.length).all fun j => match vs[j]?, prem[p + 2 + o + j]? with
      | some v, some (.eq (.elem T (.int jj)) t) => decide (T = cTm a) && decide (jj = Int32.ofNat j) && tvb t v
      | _, _ => false
  | none => false
def apos : List (Nat × Nat × Nat) := [(12, 313, 1), (13, 247, 0), (21, 1193, 0), (22, 1208, 0), (23, 1222, 0), (24, 1237, 0), (25, 1247, 0), (26, 1255, 0), (27, 1183, 0), (28, 31, 0), (29, 134, 0)]
set_option maxRecDepth 100000 in
theorem chA_ok : (apos.all fun q => chA q.1 q.2.1 q.2.2) = true := by decide +kernel
/-- objects: exactly of a class; fields -/
def epos : List (Nat × Nat × String) := [(1, 4, "SingleTrackLine$Place"), (2, 20, "SingleTrackLine$Place"), (3, 15, "SingleTrackLine$Place"), (4, 11, "SingleTrackLine$Place"), (5, 238, "SingleTrackLine$Command"), (6, 256, "SingleTrackLine$Command"), (7, 265, "SingleTrackLine$Command"), (8, 275, "SingleTrackLine$Command"), (9, 286, "SingleTrackLine$Command"), (10, 298, "SingleTrackLine$Command"), (11, 6, "SingleTrackLine$Command"), (14, 1191, "java/lang/String"), (15, 1206, "java/lang/String"), (16, 1220, "java/lang/String"), (17, 1235, "java/lang/String"), (18, 1245, "java/lang/String"), (19, 1253, "java/lang/String"), (20, 1181, "java/lang/String")]
set_option maxRecDepth 100000 in
theorem epos_ok : (epos.all fun q => decide (prem[q.2.1]? = some (.exactly (cTm q.1) q.2.2))) = true := by decide +kernel
def fpos : List (Nat × Nat × Nat) := [(5, 0, 239), (5, 1, 240), (6, 0, 257), (6, 1, 258), (7, 0, 266), (7, 1, 267), (8, 0, 276), (8, 1, 277), (9, 0, 287), (9, 1, 288), (10, 0, 299), (10, 1, 300), (11, 0, 7), (11, 1, 8), (14, 1, 1192), (15, 1, 1207), (16, 1, 1221), (17, 1, 1236), (18, 1, 1246), (19, 1, 1254), (20, 1, 1182)]
set_option maxRecDepth 100000 in
theorem fpos_ok : (fpos.all fun q => match cOs[q.1 - 1]? with
  | some (c, vs) => (match vs[q.2.1]?, prem[q.2.2]? with
    | some v, some (.eq (.field T C n d) t) => decide (T = cTm q.1) && decide ((C, n, d) = ((fT c q.2.1).1, (fT c q.2.1).2.1, (fT c q.2.1).2.2.1)) && tvb t v
    | _, _ => false)
  | none => false) = true := by decide +kernel
def ppos : List (Nat × Nat × Nat) := [(1, 2, 22), (1, 3, 17), (1, 4, 13), (3, 2, 25), (4, 2, 24), (4, 3, 19)]
set_option maxRecDepth 100000 in
theorem ppos_ok : (ppos.all fun q => decide (prem[q.2.2]? = some (.not (.eq (cTm q.1) (cTm q.2.1))))) = true := by decide +kernel
set_option maxRecDepth 100000 in
theorem pl_ok : (List.range 5).all (fun a => (List.range 5).all fun b => Nat.beq a 0 || Nat.beq b 0 || Nat.beq a b || ppos.any fun q => (Nat.beq q.1 a && Nat.beq q.2.1 b) || (Nat.beq q.1 b && Nat.beq q.2.1 a)) = true := by decide +kernel
def cpos : List (List Nat) := [[0, 332, 349, 381, 398, 415], [366, 0, 350, 382, 399, 416], [367, 333, 0, 383, 400, 417], [368, 334, 351, 0, 401, 418], [369, 336, 353, 385, 0, 420], [370, 337, 354, 386, 403, 0]]
set_option maxRecDepth 100000 in
theorem cpos_ok : ((List.range 6).all fun a => (List.range 6).all fun b => Nat.beq a b || decide (prem[(cpos.getD a []).getD b 0]? = some (.not (.castable (eN a) (eN b))))) = true := by decide +kernel
section GLU
variable {s : State} {args : Array Value}
theorem len_ref {T : Term} {y : Value} (h : (Term.length T).eval args s none [] s = some y) : ∃ q cell, T.eval args s none [] s = some (.ref q) ∧ s.arrayAt? q = some cell ∧ cell.slots.size < 2 ^ 31 ∧ y = .int cell.slots.size.toInt32 := by
  simp only [Term.eval] at h
  cases hT : T.eval args s none [] s with
  | none => rw [hT] at h; cases h
  | some v =>
    rw [hT] at h
    cases v with
    | ref q =>
      cases hA : s.arrayAt? q with
      | none => simp [hA] at h
      | some cell =>
        simp [hA] at h
        exact ⟨q, cell, rfl, hA, by simpa using h.1, h.2.symm⟩
    | _ => cases h
theorem elem_at {T : Term} {q : Nat} {cell : Cell} {j : Nat} {y : Value} (hT : T.eval args s none [] s = some (.ref q)) (hA : s.arrayAt? q = some cell) (hj : j < 1000) (h : (Term.elem T (.int (Int32.ofNat j))).eval args s none [] s = some y) : cell.slots[j]? = some y := by
  have h1 : ¬ Int32.ofNat j < 0 := by
    have h2 : (0 : Int32) ≤ Int32.ofNat j := (Int32.ofNat_le_ofNat (n := j) (k := 0) (by decide) (by omega)).mpr (Nat.zero_le _)
    exact Int32.not_lt.mpr h2
  have h3 : (Int32.ofNat j).toNatClampNeg = j := by
    rw [Int32.toNatClampNeg_ofNat_of_lt (by omega)]
  simp only [Term.eval, hT] at h
  simp [hA, h3, h1] at h
  exact h
theorem fld_ref {T : Term} {C n d : String} {y : Value} (h : (Term.field T C n d).eval args s none [] s = some y) : ∃ q, T.eval args s none [] s = some (.ref q) ∧ s.fieldOf? q C n d = some y := by
  simp only [Term.eval] at h
  cases hT : T.eval args s none [] s with
  | none => rw [hT] at h; cases h
  | some v =>
    rw [hT] at h
    cases v with
    | ref q => exact ⟨q, rfl, h⟩
    | _ => cases h
theorem fld_at {q : Nat} {C n d : String} {y : Value} (h : s.fieldOf? q C n d = some y) : ∃ (cf : ClassId) (kk : Class) (i : Nat) (f : Field) (cell : Cell), s.fieldFound? C n d = some (cf, kk, i, f) ∧ f.isStatic = false ∧ s.heap[q]? = some cell ∧ cell.vm ≠ .unknown ∧ cell.slots[f.slot]? = some y := by
  unfold State.fieldOf? State.fieldNamed? at h
  cases hc : s.heap[q]? with
  | none => rw [hc] at h; cases h
  | some cell =>
    rw [hc] at h
    cases hf : s.fieldFound? C n d with
    | none => rw [hf] at h; cases h
    | some x =>
      obtain ⟨cf, kk, i, f⟩ := x
      rw [hf] at h
      cases hs : f.isStatic with
      | true => simp [hs] at h
      | false =>
        simp [hs] at h
        exact ⟨cf, kk, i, f, cell, rfl, hs, rfl, fun z => by simp [z] at h, by
          have h2 := h.2
          exact h2⟩
/-- the constants of the law's start -/
def Gx (s : State) (b : Nat) (xs : List Int32) (D : Nat → ClassId) (I : Nat → Nat → Nat) (K : Nat → ClassId) : Gw :=
  (s, #[.ref b], fun a => match (cTm a).eval #[.ref b] s none [] s with
    | some (.ref q) => q
    | _ => 0, fun _ => match (Term.static "jdk/internal/util/Preconditions" "SIOOBE_FORMATTER" "Ljava/util/function/BiFunction;").eval #[.ref b] s none [] s with
    | some (.ref q) => some q
    | _ => none, D, I, K, hcx xs)
section GX1
variable {b : Nat} {xs : List Int32} {D : Nat → ClassId} {I : Nat → Nat → Nat} {K : Nat → ClassId}
theorem Gx_C {a q : Nat} (h : (cTm a).eval #[.ref b] s none [] s = some (.ref q)) : gC (Gx s b xs D I K) a = q := by
  show (match (cTm a).eval #[.ref b] s none [] s with
    | some (.ref q) => q
    | _ => 0) = q
  rw [h]
theorem prem_at {i : Nat} {w : Cond} (hp : ∀ w ∈ prem, w.before #[.ref b] s = true) (h : prem[i]? = some w) : w.holds #[.ref b] s none s [] = true := hp w (List.mem_of_getElem? h)
/-- the array at a -/
theorem arr_at (hp : ∀ w ∈ prem, w.before #[.ref b] s = true) {a p o : Nat} (h : chA a p o = true) : ∃ c vs q cell, cOs[a - 1]? = some (c, vs) ∧ 100 ≤ c ∧ c < 108 ∧ (cTm a).eval #[.ref b] s none [] s = some (.ref q) ∧ s.heap[q]? = some cell ∧ s.isArrayOf cell (aty c) ∧ cell.vm ≠ .unknown ∧ vs.length ≤ cell.slots.size ∧ cell.slots.size.toInt32 = Int32.ofNat vs.length ∧
    ∀ (j : Nat) (v : Value), vs[j]? = some v → ∃ (w : Value) (t : Term), cell.slots[j]? = some w ∧ tvb t v = true ∧ t.eval #[.ref b] s none [] s = some w := by
  unfold chA at h
  split at h
  · next c vs hc =>
    simp only [Bool.and_eq_true, decide_eq_true_eq, Nat.ble_eq, Nat.blt_eq] at h
    obtain ⟨⟨⟨⟨⟨h1, h2⟩, h3⟩, h4⟩, h5⟩, h6⟩ := h
    obtain ⟨y, e1, e2⟩ := Cond.eq_one (prem_at hp h4)
    obtain ⟨q, cell, g1, g2, g3, rfl⟩ := len_ref e1
    have e3 : Int32.ofNat vs.length = cell.slots.size.toInt32 := by
      have e4 := Option.some.inj e2
      injection e4
    obtain ⟨k1, k2, k3, -⟩ := State.arrayAt?_spec g2
    obtain ⟨k4, k5⟩ := Cond.arrayOf_spec (prem_at hp h3) g1 k1
    have hel : ∀ (j : Nat) (v : Value), vs[j]? = some v → ∃ (w : Value) (t : Term), cell.slots[j]? = some w ∧ tvb t v = true ∧ t.eval #[.ref b] s none [] s = some w := by
      intro j v hj
      have hjl := (List.getElem?_eq_some_iff.mp hj).1
      have h7 := List.all_eq_true.mp h6 j (List.mem_range.mpr hjl)
      rw [hj] at h7
      split at h7
      · next v' T jj t hv' hw' =>
        cases hv'
        simp only [Bool.and_eq_true, decide_eq_true_eq] at h7
        obtain ⟨⟨rfl, rfl⟩, h8⟩ := h7
        obtain ⟨y, f1, f2⟩ := Cond.eq_one (prem_at hp hw')
        exact ⟨y, t, elem_at g1 g2 (by omega) f1, h8, f2⟩
      · cases h7
    have hle : vs.length ≤ cell.slots.size := by
      by_cases h0 : vs.length = 0
      · omega
      · obtain ⟨w, t, f1, -, -⟩ := hel (vs.length - 1) _ (List.getElem?_eq_getElem (by omega))
        have := (Array.getElem?_eq_some_iff.mp f1).1
        omega
    exact ⟨c, vs, q, cell, hc, h1, h2, g1, k1, k4, k2, hle, e3.symm, hel⟩
  · cases h
theorem apos_at {a : Nat} (h : (apos.any fun q => Nat.beq q.1 a) = true) : ∃ p o, chA a p o = true := by
  obtain ⟨q, h1, h2⟩ := List.any_eq_true.mp h
  have h3 := List.all_eq_true.mp chA_ok q h1
  have h4 : q.1 = a := Nat.eq_of_beq_eq_true h2
  rw [h4] at h3
  exact ⟨_, _, h3⟩
theorem epos_at (hp : ∀ w ∈ prem, w.before #[.ref b] s = true) {a : Nat} {C : String} (h : (epos.any fun q => Nat.beq q.1 a && decide (q.2.2 = C)) = true) : ∃ q cell, (cTm a).eval #[.ref b] s none [] s = some (.ref q) ∧ s.heap[q]? = some cell ∧ cell.vm.isStatics = false ∧ s.vm.findClass C = some cell.cls := by
  obtain ⟨x, h1, h2⟩ := List.any_eq_true.mp h
  rw [Bool.and_eq_true, decide_eq_true_eq] at h2
  have h3 := of_decide_eq_true (List.all_eq_true.mp epos_ok x h1)
  have h4 : x.1 = a := Nat.eq_of_beq_eq_true h2.1
  rw [h4, h2.2] at h3
  obtain ⟨q, c, cell, k, g1, g2, g3, g4, g5, g6, -⟩ := Cond.exactly_spec (prem_at hp h3)
  exact ⟨q, cell, g1, g3, g5, by rw [g2, g6]⟩
/-- every constant is an object -/
theorem const_at (hp : ∀ w ∈ prem, w.before #[.ref b] s = true) {a : Nat} (h1 : 0 < a) (h2 : a < 30) : ∃ q cell, (cTm a).eval #[.ref b] s none [] s = some (.ref q) ∧ s.heap[q]? = some cell := by
  have hd : ∀ a, a < 30 → 0 < a → (apos.any fun q => Nat.beq q.1 a) = true ∨ (epos.any fun q => Nat.beq q.1 a && decide (q.2.2 = "SingleTrackLine$Place")) = true ∨ (epos.any fun q => Nat.beq q.1 a && decide (q.2.2 = "SingleTrackLine$Command")) = true ∨ (epos.any fun q => Nat.beq q.1 a && decide (q.2.2 = "java/lang/String")) = true := by decide +kernel
  rcases hd a h2 h1 with h | h | h | h
  · obtain ⟨p, o, h⟩ := apos_at h
    obtain ⟨c, vs, q, cell, -, -, -, g1, g2, -⟩ := arr_at hp h
    exact ⟨q, cell, g1, g2⟩
  · obtain ⟨q, cell, g1, g2, -⟩ := epos_at hp h; exact ⟨q, cell, g1, g2⟩
  · obtain ⟨q, cell, g1, g2, -⟩ := epos_at hp h; exact ⟨q, cell, g1, g2⟩
  · obtain ⟨q, cell, g1, g2, -⟩ := epos_at hp h; exact ⟨q, cell, g1, g2⟩
/-- a term's value, as the pure machine has it -/
theorem tvb_at (hp : ∀ w ∈ prem, w.before #[.ref b] s = true) {t : Term} {v w : Value} (h : tvb t v = true) (e : t.eval #[.ref b] s none [] s = some w) : VR (rho0 (Gx s b xs D I K)) (gO (Gx s b xs D I K)) v w := by
  unfold tvb at h
  split at h
  · next x =>
    have := of_decide_eq_true h
    subst this
    cases e
    rfl
  · next a =>
    simp only [Bool.and_eq_true, decide_eq_true_eq, Nat.blt_eq] at h
    obtain ⟨⟨h1, h2⟩, rfl⟩ := h
    obtain ⟨q, cell, g1, g2⟩ := const_at hp h1 h2
    rw [g1] at e
    cases e
    refine ⟨q, ?_, rfl⟩
    show (if a < N0 then some (gC (Gx s b xs D I K) a) else none) = some q
    rw [if_pos (Nat.lt_trans h2 (show 30 < N0 by decide)), Gx_C g1]
  · cases h
theorem CFa_at (hp : ∀ w ∈ prem, w.before #[.ref b] s = true) {a : Nat} (h : (apos.any fun q => Nat.beq q.1 a) = true) : ∃ c vs, cOs[a - 1]? = some (c, vs) ∧ 100 ≤ c ∧ c < 108 ∧ CFa (Gx s b xs D I K) a c vs := by
  obtain ⟨p, o, h⟩ := apos_at h
  obtain ⟨c, vs, q, cell, h0, h1, h2, g1, g2, g3, g4, g5, g6, g7⟩ := arr_at hp h
  refine ⟨c, vs, h0, h1, h2, cell, by rw [Gx_C g1]; exact g2, g3, g4, g5, g6, fun j v hj => ?_⟩
  obtain ⟨w, t, k1, k2, k3⟩ := g7 j v hj
  exact ⟨w, k1, tvb_at hp k2 k3⟩
theorem fpos_at (hp : ∀ w ∈ prem, w.before #[.ref b] s = true) {a k c : Nat} {vs : List Value} {v : Value} (h : (fpos.any fun q => Nat.beq q.1 a && Nat.beq q.2.1 k) = true) (hc : cOs[a - 1]? = some (c, vs)) (hv : vs[k]? = some v) :
    ∃ (cf : ClassId) (kk : Class) (i : Nat) (f : Field) (cell : Cell) (w : Value), s.fieldFound? (fT c k).1 (fT c k).2.1 (fT c k).2.2.1 = some (cf, kk, i, f) ∧ f.isStatic = false ∧ s.heap[gC (Gx s b xs D I K) a]? = some cell ∧ cell.vm ≠ .unknown ∧ cell.slots[f.slot]? = some w ∧ VR (rho0 (Gx s b xs D I K)) (gO (Gx s b xs D I K)) v w := by
  obtain ⟨⟨a', k', p⟩, h1, h2⟩ := List.any_eq_true.mp h
  rw [Bool.and_eq_true] at h2
  have h3 : a' = a := Nat.eq_of_beq_eq_true h2.1
  have h4 : k' = k := Nat.eq_of_beq_eq_true h2.2
  subst h3 h4
  have h5 := List.all_eq_true.mp fpos_ok _ h1
  dsimp only at h5
  rw [hc] at h5
  dsimp only at h5
  rw [hv] at h5
  split at h5
  · next v' T C n d t hv' hw' =>
    cases hv'
    simp only [Bool.and_eq_true, decide_eq_true_eq, Prod.mk.injEq] at h5
    obtain ⟨⟨rfl, rfl, rfl, rfl⟩, h8⟩ := h5
    obtain ⟨y, f1, f2⟩ := Cond.eq_one (prem_at hp hw')
    obtain ⟨q, f3, f4⟩ := fld_ref f1
    obtain ⟨cf, kk, i, f, cell, k1, k2, k3, k4, k5⟩ := fld_at f4
    exact ⟨cf, kk, i, f, cell, y, k1, k2, by rw [Gx_C f3]; exact k3, k4, k5, tvb_at hp h8 f2⟩
  · cases h5
theorem fval_at (hp : ∀ w ∈ prem, w.before #[.ref b] s = true) {a : Nat} (h1 : 14 ≤ a) (h2 : a < 21) :
    ∃ (cf : ClassId) (kk : Class) (i : Nat) (f : Field) (cell : Cell) (w : Value), s.fieldFound? (fT 7 0).1 (fT 7 0).2.1 (fT 7 0).2.2.1 = some (cf, kk, i, f) ∧ f.isStatic = false ∧ s.heap[gC (Gx s b xs D I K) a]? = some cell ∧ cell.vm ≠ .unknown ∧ cell.slots[f.slot]? = some w ∧ VR (rho0 (Gx s b xs D I K)) (gO (Gx s b xs D I K)) (.ref (a + 7)) w := by
  have hd : ∀ a, a < 21 → 14 ≤ a → cTm (a + 7) = .field (cTm a) (fT 7 0).1 (fT 7 0).2.1 (fT 7 0).2.2.1 := by decide +kernel
  obtain ⟨q, cell, g1, g2⟩ := const_at hp (a := a + 7) (by omega) (by omega)
  have g3 := g1
  rw [hd a h2 h1] at g1
  obtain ⟨q', f3, f4⟩ := fld_ref g1
  obtain ⟨cf, kk, i, f, cell, k1, k2, k3, k4, k5⟩ := fld_at f4
  exact ⟨cf, kk, i, f, cell, _, k1, k2, by rw [Gx_C f3]; exact k3, k4, k5, tvb_at hp (by
    unfold tvb
    simp only [Bool.and_eq_true, decide_eq_true_eq, Nat.blt_eq]
    exact ⟨⟨by omega, by omega⟩, trivial⟩) g3⟩
/-- the constants -/
theorem consts_ok (hp : ∀ w ∈ prem, w.before #[.ref b] s = true) (hX : va_X b xs.length (fun j => xs.getD j 0) s s.heap) (hL : xs.length < 2 ^ 31) : ∀ a c vs, a < N0 → gH (Gx s b xs D I K) a = some (c, vs) → gC (Gx s b xs D I K) a < s.heap.size ∧ ((100 ≤ c ∧ c < 108 ∧ CFa (Gx s b xs D I K) a c vs) ∨ ((c = 7 ∨ c = 8) ∧ CFo (Gx s b xs D I K) a c vs) ∨ c = 9) := by
  intro a c vs ha hg
  change hcx xs a = some (c, vs) at hg
  unfold hcx at hg
  split at hg
  · next h0 =>
    subst h0
    cases hg
    obtain ⟨scr, k1, k2, k3, k4, k5⟩ := hX
    have e0 : gC (Gx s b xs D I K) 0 = b := Gx_C rfl
    refine ⟨by rw [e0]; exact (Array.getElem?_eq_some_iff.mp k1).1, Or.inl ⟨by decide, by decide, scr, by rw [e0]; exact k1, k2, k3, by rw [List.length_map, k4]; exact Nat.le_refl _, by rw [List.length_map, k4], fun j v hj => ?_⟩⟩
    rw [List.getElem?_map] at hj
    cases hx : xs[j]? with
    | none => rw [hx] at hj; cases hj
    | some x =>
      rw [hx] at hj
      cases hj
      refine ⟨_, k5 j (List.getElem?_eq_some_iff.mp hx).1, ?_⟩
      show VR _ _ (.int x) (.int (xs.getD j 0))
      rw [List.getD_eq_getElem?_getD, hx]
      rfl
  · next h0 =>
    have ha2 : a < 30 := by
      have := (List.getElem?_eq_some_iff.mp hg).1
      have h9 : cOs.length = 29 := rfl
      omega
    obtain ⟨q, cell, g1, g2⟩ := const_at hp (a := a) (by omega) ha2
    refine ⟨by rw [Gx_C g1]; exact (Array.getElem?_eq_some_iff.mp g2).1, ?_⟩
    have hd : ∀ a, a < 30 → 0 < a → (apos.any fun q => Nat.beq q.1 a) = true ∨ (1 ≤ a ∧ a ≤ 4) ∨ (5 ≤ a ∧ a ≤ 11) ∨ (14 ≤ a ∧ a ≤ 20) := by decide +kernel
    rcases hd a ha2 (by omega) with h | ⟨h1, h2⟩ | ⟨h1, h2⟩ | ⟨h1, h2⟩
    · obtain ⟨c', vs', h3, h4, h5, h6⟩ := CFa_at (xs := xs) (D := D) (I := I) (K := K) hp h
      rw [hg] at h3
      cases h3
      exact Or.inl ⟨h4, h5, h6⟩
    · have h : cOs[a - 1]? = some (9, []) := by
        rcases (by omega : a = 1 ∨ a = 2 ∨ a = 3 ∨ a = 4) with rfl | rfl | rfl | rfl <;> rfl
      rw [h] at hg
      cases hg
      exact Or.inr (Or.inr rfl)
    · have h : cOs[a - 1]? = some (8, [.int (Int32.ofNat (a - 5)), .ref (a + 9)]) := by
        rcases (by omega : a = 5 ∨ a = 6 ∨ a = 7 ∨ a = 8 ∨ a = 9 ∨ a = 10 ∨ a = 11) with rfl | rfl | rfl | rfl | rfl | rfl | rfl <;> rfl
      have hg' := hg
      rw [h] at hg
      cases hg
      refine Or.inr (Or.inl ⟨Or.inr rfl, ?_, ?_⟩)
      · have hd2 : ∀ a, a < 12 → 5 ≤ a → (epos.any fun q => Nat.beq q.1 a && decide (q.2.2 = cN 8)) = true := by decide +kernel
        obtain ⟨q', cell', f1, f2, f3, f4⟩ := epos_at hp (hd2 a (by omega) h1)
        exact ⟨cell', by rw [Gx_C f1]; exact f2, f3, f4⟩
      · intro k v hv hk
        have hd3 : ∀ a, a < 12 → 5 ≤ a → ∀ k, k < 2 → (fpos.any fun q => Nat.beq q.1 a && Nat.beq q.2.1 k) = true := by decide +kernel
        exact fpos_at hp (hd3 a (by omega) h1 k hk) hg' hv
    · have h : cOs[a - 1]? = some (7, [.ref (a + 7), .int 0]) := by
        rcases (by omega : a = 14 ∨ a = 15 ∨ a = 16 ∨ a = 17 ∨ a = 18 ∨ a = 19 ∨ a = 20) with rfl | rfl | rfl | rfl | rfl | rfl | rfl <;> rfl
      have hg' := hg
      rw [h] at hg
      cases hg
      refine Or.inr (Or.inl ⟨Or.inl rfl, ?_, ?_⟩)
      · have hd2 : ∀ a, a < 21 → 14 ≤ a → (epos.any fun q => Nat.beq q.1 a && decide (q.2.2 = cN 7)) = true := by decide +kernel
        obtain ⟨q', cell', f1, f2, f3, f4⟩ := epos_at hp (hd2 a (by omega) h1)
        exact ⟨cell', by rw [Gx_C f1]; exact f2, f3, f4⟩
      · intro k v hv hk
        have hk2 : k < 2 := hk
        rcases (by omega : k = 0 ∨ k = 1) with rfl | rfl
        · cases hv
          exact fval_at hp h1 (by omega)
        · have hd3 : ∀ a, a < 21 → 14 ≤ a → (fpos.any fun q => Nat.beq q.1 a && Nat.beq q.2.1 1) = true := by decide +kernel
          exact fpos_at hp (hd3 a (by omega) h1) hg' hv
end GX1
theorem sel_more {y : MethodName} (hy : y.cls = "java/lang/AbstractStringBuilder") (hsb : (Cond.selects "java/lang/StringBuilder" ⟨"java/lang/AbstractStringBuilder", "isLatin1", "()Z"⟩ ⟨"java/lang/AbstractStringBuilder", "isLatin1", "()Z"⟩).before args s = true) (hpriv : (Cond.privateMethod y).before args s = true) (hinst : (Cond.instanceMethod y).before args s = true) : (Cond.selects "java/lang/StringBuilder" y y).before args s = true := by
  obtain ⟨c, r, m, q1, -, q3, -, mk', q5, q6⟩ := Cond.selects_spec hsb
  obtain ⟨mk, methM, hnamed, hmethM, -, -⟩ := Cond.instanceMethod_spec hinst
  have hfound : s.methodFound? y.cls y.name y.desc = some mk := State.methodFound?_of_named hnamed (by rw [hy]; decide)
  have hcls : mk.cls = m.cls := by
    have h1 := findClass_of_methodNamed hnamed
    have h2 := findClass_of_methodNamed q3
    rw [hy] at h1
    exact Option.some.inj (h1.symm.trans h2)
  have hsel : selectMethod {} s.vm c mk = .method mk := selectMethod_private hmethM (Cond.privateMethod_at hpriv mk methM hnamed hmethM)
  simp only [Cond.before, Cond.holds, Cond.value, q1, hfound, hnamed, hsel, hcls, q5]
  simp
  exact q6
set_option maxRecDepth 100000 in
theorem sel_dec : Cond.selects "java/lang/StringBuilder" ⟨"java/lang/AbstractStringBuilder", "isLatin1", "()Z"⟩ ⟨"java/lang/AbstractStringBuilder", "isLatin1", "()Z"⟩ ∈ lw_tbl ∧ Cond.privateMethod yEns ∈ lw_tbl ∧ Cond.instanceMethod yEns ∈ lw_tbl ∧ Cond.privateMethod yCap ∈ lw_tbl ∧ Cond.instanceMethod yCap ∈ lw_tbl := by decide +kernel
theorem lw_W_at (h : ∀ w ∈ lw_tbl, w.before args s = true) : ∀ w ∈ lw_W, w.before args s = true := by
  obtain ⟨h1, h2, h3, h4, h5⟩ := sel_dec
  intro w hw
  rcases List.mem_cons.mp hw with rfl | hw
  · exact sel_more rfl (h _ h1) (h _ h2) (h _ h3)
  · rcases List.mem_cons.mp hw with rfl | hw
    · exact sel_more rfl (h _ h1) (h _ h4) (h _ h5)
    · exact h w hw
/-- a choice for each small number -/
theorem pick {α : Type} (d : α) (P : Nat → α → Prop) : ∀ n : Nat, (∀ c, c < n → ∃ x, P c x) → ∃ f : Nat → α, ∀ c, c < n → P c (f c)
  | 0, _ => ⟨fun _ => d, fun c hc => by omega⟩
  | n + 1, h => by
    obtain ⟨f, hf⟩ := pick d P n (fun c hc => h c (by omega))
    obtain ⟨x, hx⟩ := h n (by omega)
    refine ⟨fun c => if c = n then x else f c, fun c hc => ?_⟩
    dsimp only
    split
    · next e => rw [e]; exact hx
    · exact hf c (by omega)
set_option maxRecDepth 100000 in
theorem st_dec : (List.range 17).all (fun i => decide (Cond.laysStatic (sT i).1 (sT i).2.1 (sT i).2.2 ∈ lw_W) && decide (Cond.initialized (sT i).1 ∈ lw_W)) = true := by decide +kernel
set_option maxRecDepth 100000 in
theorem un_dec : Cond.laysStatic Bundle.tN "UNASSIGNED_STACK" Bundle.steD ∈ lw_W ∧ Cond.laysStatic Bundle.tN "SUPPRESSED_SENTINEL" Bundle.listD ∈ lw_W ∧ Cond.initialized Bundle.tN ∈ lw_W ∧
    Cond.isRef (.static Bundle.tN "UNASSIGNED_STACK" Bundle.steD) ∈ prem ∧ Cond.isRef (.static Bundle.tN "SUPPRESSED_SENTINEL" Bundle.listD) ∈ prem ∧ Cond.isRef (.static "jdk/internal/util/Preconditions" "SIOOBE_FORMATTER" "Ljava/util/function/BiFunction;") ∈ prem ∧ Cond.eq (.static "java/lang/String" "COMPACT_STRINGS" "Z") (.int 1) ∈ prem := by decide +kernel
set_option maxRecDepth 100000 in
theorem sr_dec : (lw_W.all fun w => match w with
  | .stringRef own k _ => decide (Cond.exactly (.string own k) "java/lang/String" ∈ prem)
  | _ => true) = true := by decide +kernel
theorem sv_dec : ∀ i, i < 17 → i ≠ 13 → i ≠ 16 → (match sV i with
  | .ref a => Nat.blt 0 a && Nat.blt a 30 && decide (cTm a = .static (sT i).1 (sT i).2.1 (sT i).2.2)
  | _ => false) = true := by decide +kernel
section GX2
variable {b : Nat} {xs : List Int32} {D : Nat → ClassId} {I : Nat → Nat → Nat} {K : Nat → ClassId} {l : Launch}
theorem statics_ok (hp : ∀ w ∈ prem, w.before #[.ref b] s = true) (hW : ∀ w ∈ lw_W, w.before #[.ref b] s = true) : ∀ i, i < 17 → ∃ w, VR (rho0 (Gx s b xs D I K)) (gO (Gx s b xs D I K)) (sV i) w ∧ va_Z (sT i).1 (sT i).2.1 (sT i).2.2 w (gW (Gx s b xs D I K)) s s.heap := by
  intro i hi
  have hA : ∀ a : Nat, a < s.heap.size → ¬ gW (Gx s b xs D I K) a := fun a h1 (h2 : s.heap.size ≤ a) => by omega
  have hw := List.all_eq_true.mp st_dec i (List.mem_range.mpr hi)
  rw [Bool.and_eq_true, decide_eq_true_eq, decide_eq_true_eq] at hw
  by_cases h13 : i = 13
  · subst h13
    exact ⟨.int 1, rfl, va_Zof (hW _ hw.1) (hW _ hw.2) (va_eqi (hp _ un_dec.2.2.2.2.2.2)) hA⟩
  by_cases h16 : i = 16
  · subst h16
    obtain ⟨v, h1, h2⟩ := Cond.isRef_spec (hp _ un_dec.2.2.2.2.2.1)
    refine ⟨v, ?_, va_Zof (hW _ hw.1) (hW _ hw.2) h1 hA⟩
    show v = va_rf (match (Term.static "jdk/internal/util/Preconditions" "SIOOBE_FORMATTER" "Ljava/util/function/BiFunction;").eval #[.ref b] s none [] s with
      | some (.ref q) => some q
      | _ => none)
    rw [h1]
    cases v <;> first | rfl | cases h2
  · have h := sv_dec i hi h13 h16
    split at h
    · next a ha =>
      simp only [Bool.and_eq_true, decide_eq_true_eq, Nat.blt_eq] at h
      obtain ⟨⟨h1, h2⟩, h3⟩ := h
      obtain ⟨q, cell, g1, g2⟩ := const_at hp h1 h2
      have g3 := g1
      rw [h3] at g3
      rw [ha]
      exact ⟨.ref q, tvb_at hp (t := cTm a) (by unfold tvb; simp only [Bool.and_eq_true, decide_eq_true_eq, Nat.blt_eq]; exact ⟨⟨h1, h2⟩, trivial⟩) g1, va_Zof (hW _ hw.1) (hW _ hw.2) g3 hA⟩
    · cases h
theorem places_ok (hp : ∀ w ∈ prem, w.before #[.ref b] s = true) : ∀ a a', 1 ≤ a → a ≤ 4 → 1 ≤ a' → a' ≤ 4 → gC (Gx s b xs D I K) a = gC (Gx s b xs D I K) a' → a = a' := by
  intro a a' h1 h2 h3 h4 he
  refine Decidable.byContradiction fun hn => ?_
  obtain ⟨q, cell, g1, g2⟩ := const_at hp (a := a) h1 (by omega)
  obtain ⟨q', cell', g1', g2'⟩ := const_at hp (a := a') h3 (by omega)
  rw [Gx_C g1, Gx_C g1'] at he
  subst he
  have hno : ∀ x y : Nat, (x = a ∧ y = a' ∨ x = a' ∧ y = a) → ∀ p : Nat, prem[p]? = some (Cond.not (Cond.eq (cTm x) (cTm y))) → False := by
    intro x y hxy p hp'
    have h9 := prem_at hp hp'
    have h8 : (Cond.eq (cTm x) (cTm y)).holds #[.ref b] s none s [] = true := by
      rcases hxy with ⟨rfl, rfl⟩ | ⟨rfl, rfl⟩
      · exact Cond.eq_same g1 g1' (Or.inr (Or.inr rfl))
      · exact Cond.eq_same g1' g1 (Or.inr (Or.inr rfl))
    simp [Cond.holds, Cond.value] at h9 h8
    rw [h9] at h8
    cases h8
  have hd := List.all_eq_true.mp (List.all_eq_true.mp pl_ok a (List.mem_range.mpr (by omega))) a' (List.mem_range.mpr (by omega))
  have e1 : Nat.beq a 0 = false := by rw [← Bool.not_eq_true, Nat.beq_eq]; omega
  have e2 : Nat.beq a' 0 = false := by rw [← Bool.not_eq_true, Nat.beq_eq]; omega
  have e3 : Nat.beq a a' = false := by rw [← Bool.not_eq_true, Nat.beq_eq]; exact hn
  rw [e1, e2, e3, Bool.false_or, Bool.false_or, Bool.false_or] at hd
  obtain ⟨⟨x, y, p⟩, k1, k2⟩ := List.any_eq_true.mp hd
  have k3 := of_decide_eq_true (List.all_eq_true.mp ppos_ok _ k1)
  rw [Bool.or_eq_true, Bool.and_eq_true, Bool.and_eq_true] at k2
  rcases k2 with ⟨m1, m2⟩ | ⟨m1, m2⟩
  · exact hno x y (Or.inl ⟨Nat.eq_of_beq_eq_true m1, Nat.eq_of_beq_eq_true m2⟩) p k3
  · exact hno x y (Or.inr ⟨Nat.eq_of_beq_eq_true m1, Nat.eq_of_beq_eq_true m2⟩) p k3
theorem arrk (hW : ∀ w ∈ lw_W, w.before #[.ref b] s = true) : ∀ kd, kd < 107 → ∃ x : ClassId, 100 ≤ kd → s.vm.findClass ("[" ++ (aty kd).toString) = some x ∧ ArrOfT s x (aty kd) ∧ va_RA s x (aty kd) := by
  intro kd hkd
  by_cases h100 : 100 ≤ kd
  · have prim : ∀ ty : FieldType, (∀ C, ty ≠ .object C) → Cond.arrayClass ty ∈ lw_W → ∃ x : ClassId, s.vm.findClass ("[" ++ ty.toString) = some x ∧ ArrOfT s x ty ∧ va_RA s x ty := by
      intro ty hty hw
      obtain ⟨c, k, comp, h1, h2, h3⟩ := Cond.arrayClass_spec (hW _ hw)
      refine ⟨c, h1, fun n z => ⟨fun k' e => (by cases e), k, h2, comp, h3⟩, ?_⟩
      unfold va_RA
      split
      · exact absurd rfl (hty _)
      · exact h1
    have ovr : ∀ C : String, Cond.arrayOver (.object C) ∈ lw_W → ∃ x : ClassId, s.vm.findClass ("[" ++ (FieldType.object C).toString) = some x ∧ ArrOfT s x (.object C) ∧ va_RA s x (.object C) := by
      intro C hw
      obtain ⟨comp, c, k, h1, -, h2, h3, h4⟩ := Cond.arrayOver_spec (hW _ hw)
      exact ⟨c, h4, fun n z => ⟨fun k' e => (by cases e), k, h2, comp, h3⟩, k, comp, h2, h3, h1, h4⟩
    rcases (by omega : kd = 100 ∨ kd = 101 ∨ kd = 102 ∨ kd = 103 ∨ kd = 104 ∨ kd = 105 ∨ kd = 106) with rfl | rfl | rfl | rfl | rfl | rfl | rfl
    · obtain ⟨x, hx⟩ := prim .int (fun _ h => by cases h) (mw_in (by simp [mwords])).1; exact ⟨x, fun _ => hx⟩
    · obtain ⟨x, hx⟩ := prim .char (fun _ h => by cases h) (mw_in (by simp [mwords])).1; exact ⟨x, fun _ => hx⟩
    · obtain ⟨x, hx⟩ := prim .byte (fun _ h => by cases h) (mw_in (by simp [mwords])).1; exact ⟨x, fun _ => hx⟩
    · obtain ⟨x, hx⟩ := prim .long (fun _ h => by cases h) (mw_in (by simp [mwords])).1; exact ⟨x, fun _ => hx⟩
    · obtain ⟨x, hx⟩ := prim .double (fun _ h => by cases h) (mw_in (by simp [mwords])).1; exact ⟨x, fun _ => hx⟩
    · obtain ⟨x, hx⟩ := ovr _ ao_ok.1; exact ⟨x, fun _ => hx⟩
    · obtain ⟨x, hx⟩ := ovr _ ao_ok.2.1; exact ⟨x, fun _ => hx⟩
  · exact ⟨(0 : Nat), fun h => absurd h h100⟩
/-- the law's start is a start of the pure machine -/
theorem gx_ok (hflags : l.flags = flags0) (hp : ∀ w ∈ prem, w.before #[.ref b] s = true) (hts : ∀ w ∈ lw_tbl, w.before #[.ref b] s = true) (hX : va_X b xs.length (fun j => xs.getD j 0) s s.heap) (hL : xs.length < 2 ^ 31) :
    ∃ D I K, GX (Gx s b xs D I K) l ∧ HR (Gx s b xs D I K) (rho0 (Gx s b xs D I K)) (hcx xs, N0, 0, 0) s.heap := by
  have hW := lw_W_at hts
  obtain ⟨F, hF⟩ := pick ((0 : Nat), fun _ : Nat => (0 : Nat)) (fun c (x : ClassId × (Nat → Nat)) => u_Kn s (cN c) (fT c) (fN c) x.1 x.2) 7 (fun c hc => by
    obtain ⟨cC, iS, h⟩ := u_known (ws := lw_W) hW (fun w hw => (lays_ok c hc w hw).1) (hW _ (inst_ok c hc).1.1)
    exact ⟨(cC, iS), h⟩)
  obtain ⟨K, hK⟩ := pick (0 : Nat) (fun kd (x : ClassId) => 100 ≤ kd → s.vm.findClass ("[" ++ (aty kd).toString) = some x ∧ ArrOfT s x (aty kd) ∧ va_RA s x (aty kd)) 107 (arrk hW)
  have hA : ∀ a : Nat, a < s.heap.size → ¬ gW (Gx s b xs (fun c => (F c).1) (fun c => (F c).2) K) a := fun a h1 (h2 : s.heap.size ≤ a) => by omega
  refine ⟨fun c => (F c).1, fun c => (F c).2, K, ⟨hW, ⟨fun c q hq => ?_, fun k q hq => by simp at hq⟩, fun kd h1 h2 => hK kd h2 h1, consts_ok hp hX hL, statics_ok hp hW, ⟨?_, vx_Zqof (hW _ un_dec.1) (hW _ un_dec.2.2.1) (hp _ un_dec.2.2.2.1) hA, vx_Zqof (hW _ un_dec.2.1) (hW _ un_dec.2.2.1) (hp _ un_dec.2.2.2.2.1) hA⟩, ?_, ?_, places_ok hp, fun a h1 h2 => ?_⟩, ?_⟩
  · have hc : c < 7 := (List.getElem?_eq_some_iff.mp hq).1
    obtain ⟨T, e1, e2⟩ := clsL_at hc
    rw [e1] at hq
    cases hq
    rw [e2]
    exact hF c hc
  · unfold Launch.stackTraces
    rw [hflags]
    decide
  · intro own k tx hw
    have h1 := List.all_eq_true.mp sr_dec _ hw
    have h2 := of_decide_eq_true h1
    obtain ⟨a, c, cell, k', g1, -⟩ := Cond.exactly_spec (hp _ h2)
    exact ⟨a, (by first | exact hW _ hw | (have h9 := hW _ hw; simpa [Cond.before, Cond.holds, Cond.value, Term.eval] using h9)), g1⟩
  · intro e e' he he' hne
    have h1 := List.all_eq_true.mp (List.all_eq_true.mp cpos_ok e (List.mem_range.mpr he)) e' (List.mem_range.mpr he')
    have h2 : Nat.beq e e' = false := by rw [← Bool.not_eq_true, Nat.beq_eq]; exact hne
    rw [h2, Bool.false_or, decide_eq_true_eq] at h1
    exact va_Nc.of (hp _ (List.mem_of_getElem? h1))
  · obtain ⟨q, cell, g1, g2⟩ := const_at hp (a := a) h1 (by omega)
    show gC _ a < s.heap.size
    rw [Gx_C g1]
    exact (Array.getElem?_eq_some_iff.mp g2).1
  · refine ⟨fun a ha => ⟨rfl, if_pos ha⟩, fun a c vs ha h => ?_, fun a q ha h => ?_, fun a a' q ha ha' h => ?_, ⟨Nat.le_refl _, fun _ _ => rfl⟩, Nat.le_refl _⟩
    · exfalso
      change hcx xs a = some (c, vs) at h
      unfold hcx at h
      have ha' : 32 ≤ a := ha
      rw [if_neg (by omega)] at h
      have := (List.getElem?_eq_some_iff.mp h).1
      have h9 : cOs.length = 29 := rfl
      omega
    · unfold rho0 at h
      rw [if_neg (by omega)] at h
      cases h
    · unfold rho0 at h
      rw [if_neg (by omega)] at h
      cases h
end GX2
end GLU
