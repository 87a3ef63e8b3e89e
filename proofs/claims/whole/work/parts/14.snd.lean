/-! SOUNDNESS: what the pure machine answers, the machine answers. -/
def icE (e : Nat) : Nat := (bif Nat.beq e 0 then 96 else bif Nat.beq e 1 then 103 else bif Nat.beq e 2 then 108 else bif Nat.beq e 3 then 113 else bif Nat.beq e 4 then 273 else 328)
def xnm : List String := ["java/lang/RuntimeException", "java/lang/Exception"]
/-- the throws of the code: own class, constructor -/
def chkV (k : Nat) : Bool := (List.range (mtop k)).all fun pc => match mcode k pc with
  | some (.new _, x, y, _, u) => Nat.blt x 7 || (decide (mown k = "SingleTrackLine") && Nat.beq (u % 100000) (icE (x - 1000)) && Nat.blt y 200000)
  | _ => true
/-- the handlers -/
def chkX (k : Nat) : Bool := decide ((mhh k).length = (mexc k).length) && ((mhh k).zip (mexc k)).all fun q =>
  decide (q.1 = (q.2.1, q.2.2.1, q.2.2.2.1, q.1.2.2.2)) && Nat.blt q.2.2.2.2.1 6 && decide (q.1.2.2.2 ≠ 0) && wat q.2.2.2.2.2 (.classLink (mown k) q.1.2.2.2 (eN q.2.2.2.2.1))
set_option maxRecDepth 100000 in
theorem chkX_ok : (List.range 282).all chkX = true := by decide +kernel
def sxt : ByteArray := ⟨#[0x2a, 0x2b, 0xb7, 0x00, 0x0d, 0xb1]⟩
def bad3 (w : Cond) : Bool := decide (w = .code (Bundle.initS (eN 3)) Bundle.six 2 none) || decide (w = .methodLink (eN 3) 7 (Bundle.initS "java/lang/RuntimeException"))
/-- the words of a throw -/
def xat (e : Nat) : List Cond := bif Nat.beq e 3 then .code (Bundle.initS (eN 3)) sxt 2 none :: .methodLink (eN 3) 13 (Bundle.initS "java/lang/RuntimeException") :: (vx_atS "SingleTrackLine" 113 (eN 3) xnm).filter (fun w => !bad3 w) else vx_atS "SingleTrackLine" (icE e) (eN e) xnm
def wmv (w : Cond) : Bool := goodWord w || (match w with | .declares _ => true | .castable _ _ => true | _ => false)
theorem wmv_at {a a' : Array Value} {u U : State} {w : Cond} (h : wmv w = true) (t : u.WarmedH U.vm) (hw : w.before a u = true) : w.before a' U = true := by
  unfold wmv at h
  rw [Bool.or_eq_true] at h
  rcases h with h | h
  · exact word_at t (good_of_word h) hw
  · split at h
    · exact va_Nw.use rfl (va_Nw.warmD t (va_Nw.of rfl hw))
    · exact va_Nw.use rfl (va_Nw.warmC t (va_Nw.of rfl hw))
    · cases h
set_option maxRecDepth 100000 in
theorem atS_ok : (List.range 6).all (fun e => (Cond.initialized (eN e) :: xat e).all fun w => decide (w ∈ lw_W) && (vx_ot w && wmv w)) = true := by decide +kernel
theorem atS_in {e : Nat} (he : e < 6) {w : Cond} (h : w ∈ Cond.initialized (eN e) :: xat e) : w ∈ lw_W ∧ vx_ot w = true ∧ wmv w = true := by
  have h1 := List.all_eq_true.mp (List.all_eq_true.mp atS_ok e (List.mem_range.mpr he)) w h
  rw [Bool.and_eq_true, Bool.and_eq_true] at h1
  exact ⟨of_decide_eq_true h1.1, h1.2⟩
theorem fit_names : (∀ e, e < 6 → Bundle.fit (eN e) = true) ∧ ∀ n ∈ xnm, Bundle.fit n = true := by decide +kernel
theorem cast_in {e : Nat} (he : e < 6) : Cond.castable (eN e) (eN e) ∈ Cond.initialized (eN e) :: xat e := by
  have : ∀ e, e < 6 → Cond.castable (eN e) (eN e) ∈ Cond.initialized (eN e) :: xat e := by decide +kernel
  exact this e he
section THR
variable {p : Program} {l : Launch} {e : Env} {R : Room} {s : State} {m : MethodId} {args : Array Value} {below : List Frame} {meth : Method} {c : Code} {H : Heap} {locs : List Loc} {cells slots : Nat}
variable {Qc : Array Value → State → Outcome → State → Prop} {XC : String → State → State → Prop} {free : Addr → Prop} {ls : Array Slot} {rest : List Value}
/-- the words of the constructor's walk, one class's own code put in place -/
theorem ctor3 {W1 : State} (X : Stand p l e R s m args below meth c W1 locs cells slots) (hexec : p.tables.exec = Jvm.exec) (htr : e.platform.stackTraces = false)
    (hown : s.vm.findClass "SingleTrackLine" = some m.cls) (h : ∀ w ∈ Bundle.ownAtoms "SingleTrackLine" 113 (eN 3) xnm, bad3 w = false → w.before args s = true)
    (h1 : (Cond.code (Bundle.initS (eN 3)) sxt 2 none).before args s = true) (h2 : (Cond.methodLink (eN 3) 13 (Bundle.initS "java/lang/RuntimeException")).before args s = true)
    (hlocs : ∀ x ∈ locs, ∀ cell, s.heap[x.base]? = some cell → cell.vm.isStatics = false)
    {a : Addr} {cX : ClassId} {kX : Class} (hfX : s.vm.findClass (eN 3) = some cX) (hkX : s.vm.classes[cX]? = some kX) (hcell : W1.heap[a]? = some (freshCell cX kX)) (hnew : s.heap.size ≤ a) {msg : Value} (hmsg : msg.isRef = true)
    {g : JFrame} (hg : g.method = m) (hsize : g.locals.size = c.maxLocals) (hlocked : g.locked = none) (hentered : g.entered = []) {rest : List Value} (hstack : g.stack = msg :: .ref a :: .ref a :: rest)
    (hd6 : decode c.code g.pc = .ok (.invokespecial 113, 3)) (hd9 : decode c.code (g.pc + 3) = .ok (.athrow, 1)) (hout : ∀ x ∈ c.exceptionTable.toList, ∀ q, covers x q = false)
    (hRframes : 5 < R.frames) (hRlocals : 2 * g.monitorRoom + ((Value.ref a :: rest).map fun v => v.category).sum + (13 * 3 + 42) ≤ R.locals) (hlocks : meth.locks = false) :
    ∃ U : State, Steps p.tables e below (W1.setTop g) U ∧ U.status = .running ∧ Ended U below (.threw a) ∧ s.WarmedH U.vm ∧ s.sameButNew ({ U with vm := s.vm } : State) locs cells slots ∧
      ∃ ce, U.heap[a]? = some ce ∧ ce.vm = .none ∧ s.vm.findClass (eN 3) = some ce.cls := by
  have hpl : e.platform.magicAccessors = ({} : Platform).magicAccessors := by rw [X.admits.platform]
  have ow : ∀ w, w ∈ Bundle.ownAtoms "SingleTrackLine" 113 (eN 3) xnm → bad3 w = false → w.holds args s none s [] = true := fun w hw hb => h w hw hb
  have all3 : ∀ L : List Cond, (L.all fun w => decide (w ∈ Bundle.ownAtoms "SingleTrackLine" 113 (eN 3) xnm) && !bad3 w) = true → ∀ w ∈ L, w.before args s = true := by
    intro L hL w hw
    have h9 := List.all_eq_true.mp hL w hw
    rw [Bool.and_eq_true, decide_eq_true_eq, Bool.not_eq_true'] at h9
    exact h w h9.1 h9.2
  have at3 : ∀ w : Cond, (decide (w ∈ Bundle.ownAtoms "SingleTrackLine" 113 (eN 3) xnm) && !bad3 w) = true → w.before args s = true := by
    intro w h9
    rw [Bool.and_eq_true, decide_eq_true_eq, Bool.not_eq_true'] at h9
    exact h w h9.1 h9.2
  have hcl3 : Bundle.fit (eN 3) = true := fit_names.1 3 (by decide)
  obtain ⟨T, Z0, L, -, Y⟩ := ThrowableC.of_atoms (args := args) (by rw [X.admits.platform]) (by rw [X.admits.platform]) hpl (all3 Bundle.throwableAtoms (by decide +kernel))
  obtain ⟨Z, M, LZ, LM, hnZ⟩ := Init0T.ofS_atoms (args := args) hpl L Y (all3 Bundle.throwableSAtoms (by decide +kernel))
  obtain ⟨P2, Ps, hlen, L2, hL, hP2m, hlink2, hlink⟩ := Bundle.chainS (args := args) hpl hnZ ["java/lang/Exception"] "java/lang/RuntimeException" (fit_names.2 _ (by simp [xnm])) (fun n hn => fit_names.2 n (by rw [List.mem_singleton.mp hn]; simp [xnm])) (all3 _ (by decide +kernel))
  obtain ⟨P1, L1, hP1m, hP1s⟩ := PassC.ofS_atoms (args := args) (s := s) hpl (X := eN 3) (Y := "java/lang/RuntimeException") (index := 13) (bytes := sxt) (Bundle.fit_spec hcl3).1 (by decide) (by decide +kernel) (by decide +kernel) (by decide +kernel) (by decide +kernel) (by
    intro w hw
    simp only [Bundle.passSAtoms, List.mem_cons, List.not_mem_nil, or_false] at hw
    rcases hw with rfl | rfl | rfl | rfl | rfl
    · exact at3 _ (by decide +kernel)
    · exact h1
    · exact h2
    · exact at3 _ (by decide +kernel)
    · exact at3 _ (by decide +kernel))
  have hlink1 : P1.sup = P2.m := Option.some.inj (hP1s.symm.trans hP2m)
  have hfd : s.vm.findClass (eN 3) = some P1.m.cls := findClass_of_methodNamed hP1m
  cases Option.some.inj (hfX.symm.trans hfd)
  obtain ⟨c1, kX', hc1, hk1, hord, -, -, -⟩ := Cond.instantiable_spec (at3 (.instantiable (eN 3) 6) (by decide +kernel))
  cases Option.some.inj (hc1.symm.trans hfd)
  cases Option.some.inj (hkX.symm.trans hk1)
  have hsel : ∀ (t : MethodId) (x : MethodName), (decide (Cond.selects (eN 3) x x ∈ Bundle.ownAtoms "SingleTrackLine" 113 (eN 3) xnm) && !bad3 (Cond.selects (eN 3) x x)) = true → s.methodNamed? x = some t → s.methodFound? x.cls x.name x.desc = some t → selectMethod e.platform s.vm P1.m.cls t = .method t := by
    intro t x hx hn hfn
    obtain ⟨c2, r2, m2, q1, q2, q3, q4, -⟩ := Cond.selects_spec (at3 _ hx)
    cases Option.some.inj (q1.symm.trans hfd)
    cases Option.some.inj (q2.symm.trans hfn)
    cases Option.some.inj (q3.symm.trans hn)
    rw [Launch.admits_selectMethod X.admits]
    exact q4
  have hsel0 := hsel T.fill0 Bundle.tFill0 (by decide +kernel) Y.fill0 (State.methodFound?_of_named Y.fill0 (by decide))
  have hselF := hsel T.fill Bundle.tFill (by decide +kernel) Y.fill (State.methodFound?_of_named Y.fill (by decide))
  obtain ⟨cS0, hcS0, hiss⟩ := Y.statics
  obtain ⟨u0, hu0⟩ := Cond.staticRefV Y.unassigned L.unassignedStatic L.statics hcS0 hiss (at3 (.isRef (.static Bundle.tN "UNASSIGNED_STACK" Bundle.steD)) (by decide +kernel))
  obtain ⟨sen, hsen⟩ := Cond.staticRefV Y.sentinel L.sentinelStatic L.statics hcS0 hiss (at3 (.isRef (.static Bundle.tN "SUPPRESSED_SENTINEL" Bundle.listD)) (by decide +kernel))
  obtain ⟨ci, ib, fB, hkB, hgB, haB, hsB, -, hnB, htB, hffB⟩ := Cond.ownField (t := .object "java/lang/Object") Y.found L.cls (by decide +kernel) (at3 (.fieldLink Bundle.tN 198 Bundle.tN "backtrace" "Ljava/lang/Object;") (by decide +kernel)) (at3 (.lays Bundle.tN Bundle.tN "backtrace" "Ljava/lang/Object;") (by decide +kernel)) e.platform hpl
  obtain ⟨cS, hcS, heS, -, hkeep⟩ := X.same.2.2.2.2.2 T.aS cS0 hcS0
  have hcellS : W1.heap[T.aS]? = some cS := hcS
  have hnl : ∀ i, (⟨T.aS, i⟩ : Loc) ∉ locs := fun i hm => by
    have h9 := hlocs _ hm cS0 hcS0
    rw [hiss] at h9
    cases h9
  have hknown : cS.vm ≠ .unknown := by
    rw [heS]
    intro hu
    rw [show cS0.vm = .unknown from hu] at hiss
    cases hiss
  have hne : T.aS ≠ a := Nat.ne_of_lt (Nat.lt_of_lt_of_le (Array.getElem?_eq_some_iff.mp hcS0).1 hnew)
  obtain ⟨iM, hffM⟩ := Y.msg
  obtain ⟨tyC, dC, hdC, hdnC⟩ := Cond.laysAt hfd hk1 Y.cause (at3 (.lays (eN 3) Bundle.tN "cause" "Ljava/lang/Throwable;") (by decide +kernel))
  obtain ⟨tyS, dS, hdS, hdnS⟩ := Cond.laysAt hfd hk1 Y.stack (at3 (.lays (eN 3) Bundle.tN "stackTrace" Bundle.steD) (by decide +kernel))
  obtain ⟨tyP, dP, hdP, hdnP⟩ := Cond.laysAt hfd hk1 Y.supp (at3 (.lays (eN 3) Bundle.tN "suppressedExceptions" Bundle.listD) (by decide +kernel))
  obtain ⟨tyM, -, -, -⟩ := Cond.laysAt hfd hk1 hffM (at3 (.lays (eN 3) Bundle.tN "detailMessage" "Ljava/lang/String;") (by decide +kernel))
  obtain ⟨tyB, dB, hdB, hdnB⟩ := Cond.laysAt hfd hk1 hffB (at3 (.lays (eN 3) Bundle.tN "backtrace" "Ljava/lang/Object;") (by decide +kernel))
  have bC := Cond.laysApart hdB hdC hdnB hdnC (by rw [hnB, Y.causeName]; decide)
  have bS := Cond.laysApart hdB hdS hdnB hdnS (by rw [hnB, Y.stackName]; decide)
  have bP := Cond.laysApart hdB hdP hdnB hdnP (by rw [hnB, Y.suppName]; decide)
  have hback : ((preparedCellV T.toThrowableT (freshCell P1.m.cls kX) a u0 sen).withEntry W1.cur).slots[fB.slot]? = some Value.null := by
    have h9 := fresh_default (c := P1.m.cls) tyB
    rw [htB] at h9
    simpa [preparedCellV, Cell.setSlot, Cell.withEntry, Array.getElem?_setIfInBounds, bC, bS, bP, bC.symm, bS.symm, bP.symm, defaultValue] using h9
  have hskip : SkipFacts T e.platform s (fun u => u) u0 ((preparedCellV T.toThrowableT (freshCell P1.m.cls kX) a u0 sen).withEntry W1.cur) := ⟨{ ci198 := ci, i198 := ib, fBack := fB }, ⟨hkB, hgB, haB, hsB⟩, hback, fun _ _ => rfl⟩
  obtain ⟨tm, mC, cdC, kC, vm₁, hnC, -, -, -, -, -, -, -, hW₁, st1⟩ := Steps.initColdS (tb := p.tables) (e := e) (below := below) (s := s) (U := W1) X.here hexec X.warmed hpl hown (t := Bundle.initS (eN 3)) rfl rfl (Bundle.fit_spec hcl3).2
    (at3 (.methodLink "SingleTrackLine" 113 (Bundle.initS (eN 3))) (by decide +kernel)) (at3 (.instanceMethod (Bundle.initS (eN 3))) (by decide +kernel)) h1 (f := g) hg (a := a) (msg := msg) (rest := .ref a :: rest) hstack hd6
  cases Option.some.inj (hnC.symm.trans hP1m)
  obtain ⟨vm₂, X₂, st2⟩ := (X.noted hW₁).ctorMessageOffV hexec (g := { g with stack := .ref a :: rest }) hg hsize T L Z LZ M LM (P1 :: P2 :: Ps)
    (fun P hP => by
      rcases List.mem_cons.mp hP with rfl | hP
      · exact L1
      · rcases List.mem_cons.mp hP with rfl | hP
        · exact L2
        · exact hL P hP) ⟨hlink1, hlink2, hlink⟩ (u0 := u0) (sen := sen) (self := a) hmsg (cell := freshCell P1.m.cls kX) (cellS := cS)
    hcell (fun _ => by simp) (by simp) rfl rfl hsel0 hselF hcellS hne hknown (by rw [hkeep _ (hnl _)]; exact hu0) (by rw [hkeep _ (hnl _)]; exact hsen)
    (Takes.of_laid hk1 hord tyC (by rw [Y.causeType]; rfl)) (Takes.of_laid hk1 hord tyS (by rw [Y.stackType]; exact fits_refV_array _ u0)) (Takes.of_laid hk1 hord tyP (by rw [Y.suppType]; exact fits_refV_object _ sen))
    (Takes.of_laid hk1 hord tyM (by rw [Y.msgType]; exact fits_refV_object _ ⟨msg, hmsg⟩)) Y.objLocals hskip htr [] hd6
    (by simp only [List.length_cons, hlen, List.length_nil]; omega) (by simp only [List.length_cons, hlen, List.length_nil]; omega)
  obtain ⟨hwalk, hrun, hended, hWU, hsame⟩ := X₂.athrowLeaves hexec (g := { g with stack := .ref a :: rest, pc := g.pc + 3 }) hg hlocked hentered (fun x hx => hout x hx _) (a := a) (rest := rest) rfl hd9 hlocks
  have hlt : a < ((W1.setVm vm₁).setVm vm₂).heap.size := (Array.getElem?_eq_some_iff.mp hcell).1
  have hU := heapAt_setCell_self (s := (W1.setVm vm₁).setVm vm₂) (plainBareV T.toThrowableT (freshCell P1.m.cls kX) a u0 sen msg) hlt
  refine ⟨_, st1 _ (fun acts => ?_), hrun, hended, hWU, hsame.weaken (fun y hy hlt' => ?_) (Nat.le_refl _) (Nat.le_refl _), _, hU, rfl, hfd⟩
  · rw [doInvoke_state]
    exact st2 _ hwalk
  · rcases List.mem_append.mp hy with h9 | h9
    · exact h9
    · exfalso
      have hb9 : y.base = a := by
        simp only [List.mem_cons, List.not_mem_nil, or_false] at h9
        rcases h9 with rfl | rfl | rfl | rfl | rfl <;> rfl
      rw [hb9] at hlt'
      exact Nat.not_lt.mpr hnew hlt'
theorem vx_throw3 {cc : ByteArray} {pc : Nat} (hexec : p.tables.exec = Jvm.exec) (hb : c.code = cc) (hl : l.stackTraces = false) {text : String} {ik is sa : Nat} {A : Nat → Prop}
    (hown : s.vm.findClass "SingleTrackLine" = some m.cls) (hk : (Cond.classLink "SingleTrackLine" ik (eN 3)).before args s = true) (hstr : vk_R "SingleTrackLine" is text sa s) (hat : ∀ w ∈ Cond.initialized (eN 3) :: xat 3, w.before args s = true)
    (hkg : vx_ot (Cond.classLink "SingleTrackLine" ik (eN 3)) = true)
    (hU : vx_Zq Bundle.tN "UNASSIGNED_STACK" Bundle.steD A s s.heap) (hN : vx_Zq Bundle.tN "SUPPRESSED_SENTINEL" Bundle.listD A s s.heap) (hS : va_S A s.heap H locs) (hsize : ls.size = c.maxLocals)
    (d0 : decode cc pc = .ok (.new ik, 3)) (d3 : decode cc (pc + 3) = .ok (.dup, 1)) (dd : (decode cc (pc + 4) = .ok (.ldc is, 2) ∧ decode cc (pc + 6) = .ok (.invokespecial 113, 3) ∧ decode cc (pc + 9) = .ok (.athrow, 1)) ∨ (decode cc (pc + 4) = .ok (.ldc_w is, 3) ∧ decode cc (pc + 7) = .ok (.invokespecial 113, 3) ∧ decode cc (pc + 10) = .ok (.athrow, 1)))
    (hout : ∀ x ∈ c.exceptionTable.toList, ∀ q, covers x q = false)
    (hRframes : 5 < R.frames) (hRlocals : (rest.map fun v => v.category).sum + (13 * 3 + 43) ≤ R.locals) (hRcells : cells + 1 ≤ R.cells) (hRslots : slots + 6 ≤ R.slots) (hlocks : meth.locks = false)
    (hx : ∀ t : State, s.vm.Alike t.vm → H.size ≤ t.heap.size → (∀ q : Nat, q < H.size → t.heap[q]? = H[q]?) → XC (eN 3) s t)
    (hf : ∀ z ∈ locs, free z.base) :
    W p l e R s m args below meth c H locs cells slots (vx_MQ below Qc XC args s (cells + 1) (slots + 6) free) (F0 m pc ls rest) := by
  intro T hT X
  have htr : e.platform.stackTraces = false := (show e.platform.stackTraces = l.stackTraces by rw [X.admits.platform]).trans hl
  have Y := vx_rebase X (R' := { frames := R.frames, locals := R.locals, cells := 1, slots := 6 }) (Nat.le_refl _) (Nat.le_refl _) hRcells hRslots
  obtain ⟨s', hA⟩ : ∃ z, z = (T.setVm s.vm).setFrames (.invoking m args :: below) := ⟨_, rfl⟩
  rw [← hA] at Y
  have hvm : s'.vm = s.vm := by rw [hA]; rfl
  have hhp : s'.heap = H := by rw [hA]; exact hT
  have hW0 : s.WarmedH s'.vm := by rw [hvm]; exact State.WarmedH.refl s
  have hat' : ∀ w ∈ Cond.initialized (eN 3) :: xat 3, w.before args s' = true := fun w hw => vx_ot_at hW0 hvm.symm (atS_in (by decide) hw).2.1 (hat w hw)
  have hk' := vx_ot_at (a' := args) hW0 hvm.symm hkg hk
  have hU' : vx_Zq Bundle.tN "UNASSIGNED_STACK" Bundle.steD A s' s'.heap := by rw [hhp]; exact vx_Zq.moved hW0.alike (hU.kept hS.2.1)
  have hN' : vx_Zq Bundle.tN "SUPPRESSED_SENTINEL" Bundle.listD A s' s'.heap := by rw [hhp]; exact vx_Zq.moved hW0.alike (hN.kept hS.2.1)
  have h : ∀ w ∈ Bundle.ownAtoms "SingleTrackLine" 113 (eN 3) xnm, bad3 w = false → w.before args s' = true := by
    intro w hw hb3
    refine vx_own (L := [w]) (fun w' hw' => ?_) (vx_isRefq hU'.1) (vx_isRefq hN'.1) hU'.2.word hN'.2.word w List.mem_cons_self
    obtain ⟨h8, h9⟩ := List.mem_filter.mp hw'
    rw [List.mem_singleton.mp h8] at h9 ⊢
    refine hat' w (List.mem_cons_of_mem _ ?_)
    show w ∈ Cond.code (Bundle.initS (eN 3)) sxt 2 none :: .methodLink (eN 3) 13 (Bundle.initS "java/lang/RuntimeException") :: (vx_atS "SingleTrackLine" 113 (eN 3) xnm).filter (fun w => !bad3 w)
    exact List.mem_cons_of_mem _ (List.mem_cons_of_mem _ (List.mem_filter.mpr ⟨List.mem_filter.mpr ⟨hw, h9⟩, by rw [hb3]; rfl⟩))
  have h1 : (Cond.code (Bundle.initS (eN 3)) sxt 2 none).before args s' = true := hat' _ (List.mem_cons_of_mem _ List.mem_cons_self)
  have h2 : (Cond.methodLink (eN 3) 13 (Bundle.initS "java/lang/RuntimeException")).before args s' = true := hat' _ (List.mem_cons_of_mem _ (List.mem_cons_of_mem _ List.mem_cons_self))
  have hown' : s'.vm.findClass "SingleTrackLine" = some m.cls := by rw [hvm]; exact hown
  have hins : (Cond.instantiable (eN 3) 6).before args s' = true := h _ (by simp [Bundle.ownAtoms]) (by decide +kernel)
  obtain ⟨vm₁, cX, kX, hfX, hkX, -, -, X₁, st1⟩ := Y.newCold hexec (own := "SingleTrackLine") (C := eN 3) (index := ik) (n := 6) hown' hk' hins (hat' _ List.mem_cons_self)
    (g := F0 m pc ls rest) rfl (by rw [hb]; exact d0) (Nat.le_refl _) (Nat.le_refl _)
  generalize hT1 : (T.setVm vm₁).pushCell { cls := cX, slots := kX.instanceTypes.map defaultValue, vm := .none } = T1 at X₁ st1
  have hcat : (Value.ref T.heap.size).category = 1 := rfl
  have hcellA : T1.heap[T.heap.size]? = some (freshCell cX kX) := by rw [← hT1]; exact State.heap_pushCell_size _ _
  have d3' : decode c.code (pc + 3) = .ok (.dup, 1) := by rw [hb]; exact d3
  have hstr' : vk_R "SingleTrackLine" is text sa s' := vk_R.warm hW0 hstr
  have key : ∀ q : Nat, decode cc q = .ok (.invokespecial 113, 3) → decode cc (q + 3) = .ok (.athrow, 1) → ∃ U : State, Steps p.tables e below (T1.setTop { method := m, pc := q, locals := ls, stack := .ref sa :: .ref T.heap.size :: .ref T.heap.size :: rest, locked := none }) U ∧ vx_MQ below Qc XC args s (cells + 1) (slots + 6) free U := by
    intro q dq dq3
    obtain ⟨U, hsteps, hrun, hend, hW, hsame, ce, hce, hcv, hcl⟩ := ctor3 X₁ hexec htr hown' h h1 h2 (fun x hx => nomatch hx) hfX hkX hcellA (by rw [hhp, hT]; exact Nat.le_refl _) (msg := .ref sa) rfl
      (g := { method := m, pc := q, locals := ls, stack := .ref sa :: .ref T.heap.size :: .ref T.heap.size :: rest, locked := none }) rfl hsize rfl rfl (rest := rest) rfl
      (by rw [hb]; exact dq) (by rw [hb]; exact dq3) hout hRframes (by simp only [List.map_cons, List.sum_cons, hcat]; omega) hlocks
    obtain ⟨f1, f2⟩ := vx_frame hsame
    rw [hhp] at f1 f2
    have hWs : s.WarmedH U.vm := State.WarmedH.trans hW0 hW
    rw [hvm] at hcl
    have hall : s.sameButNew ({ U with vm := s.vm } : State) locs (cells + 1) (slots + 6) := by
      subst hA
      obtain ⟨e1, e2⟩ := hsame
      rw [State.setFrames_setFrames] at e1
      have h2 : (T.setVm s.vm).sameButNew ({ U with vm := s.vm } : State) [] (0 + 1) (0 + 6) := ⟨e1, e2⟩
      have h3 := X.same.trans h2
      rw [List.append_nil] at h3
      exact h3
    exact ⟨U, hsteps, .threw T.heap.size, hrun, hend, Or.inr ⟨T.heap.size, rfl, eN 3, ce, locs, hx U hWs.alike f1 (fun q hq => f2 q hq (fun z hz => nomatch hz)), hce, hcv, hcl, hWs, hall, hf⟩⟩
  rcases dd with ⟨d4, d6, d9⟩ | ⟨d4, d7, d10⟩
  · obtain ⟨U, hU1, hU2⟩ := key (pc + 6) d6 d9
    refine ⟨U, st1 _ ?_, hU2⟩
    show Steps p.tables e below (T1.setTop { method := m, pc := pc + 3, locals := ls, stack := .ref T.heap.size :: rest, locked := none }) _
    jvm_step X₁.here [X₁.here.top, hexec, d3', Value.category]
    exact X₁.ldcString hexec (own := "SingleTrackLine") (text := text) (index := is) (a := sa) hown' hstr'.1 hstr'.2
      (g := { method := m, pc := pc + 4, locals := ls, stack := .ref T.heap.size :: .ref T.heap.size :: rest, locked := none }) rfl (by rw [hb]; exact d4) _ hU1
  · obtain ⟨U, hU1, hU2⟩ := key (pc + 7) d7 d10
    refine ⟨U, st1 _ ?_, hU2⟩
    show Steps p.tables e below (T1.setTop { method := m, pc := pc + 3, locals := ls, stack := .ref T.heap.size :: rest, locked := none }) _
    jvm_step X₁.here [X₁.here.top, hexec, d3', Value.category]
    exact X₁.ldcStringW hexec (own := "SingleTrackLine") (text := text) (index := is) (a := sa) hown' hstr'.1 hstr'.2
      (g := { method := m, pc := pc + 4, locals := ls, stack := .ref T.heap.size :: .ref T.heap.size :: rest, locked := none }) rfl (by rw [hb]; exact d4) _ hU1
end THR
/-- locals at a method's entry -/
theorem eL1_get {ρ o : Nat → Option Nat} : ∀ {as ws : List Value}, SR ρ o as ws → (lg_sl ws).length = (eL1 as).length ∧ ∀ (i : Nat) (v : Value), (eL1 as)[i]? = some v → v = un ∨ ∃ w : Value, (lg_sl ws)[i]? = some (Slot.val w) ∧ VR ρ o v w
  | [], [], _ => ⟨rfl, fun i v h => by simp [eL1] at h⟩
  | v :: as, w :: ws, r => by
    obtain ⟨ih1, ih2⟩ := eL1_get r.2
    have hc := r.1.cat
    have h1 : ∀ v' : Value, v'.category = 1 → v' = v → eL1 (v :: as) = v :: eL1 as → (lg_sl (w :: ws)).length = (eL1 (v :: as)).length ∧ ∀ (i : Nat) (u : Value), (eL1 (v :: as))[i]? = some u → u = un ∨ ∃ w' : Value, (lg_sl (w :: ws))[i]? = some (Slot.val w') ∧ VR ρ o u w' := by
      intro v' hv' e1 e2
      subst e1
      have hw : lg_sl (w :: ws) = .val w :: lg_sl ws := by
        have : ¬ w.category = 2 := by rw [hc, hv']; decide
        simp [lg_sl, this]
      rw [e2, hw]
      refine ⟨by simp [ih1], fun i u hu => ?_⟩
      cases i with
      | zero => simp at hu; subst hu; exact Or.inr ⟨w, by simp, r.1⟩
      | succ i => simp at hu ⊢; exact ih2 i u hu
    have h2 : ∀ v' : Value, v'.category = 2 → v' = v → eL1 (v :: as) = v :: un :: eL1 as → (lg_sl (w :: ws)).length = (eL1 (v :: as)).length ∧ ∀ (i : Nat) (u : Value), (eL1 (v :: as))[i]? = some u → u = un ∨ ∃ w' : Value, (lg_sl (w :: ws))[i]? = some (Slot.val w') ∧ VR ρ o u w' := by
      intro v' hv' e1 e2
      subst e1
      have hw : lg_sl (w :: ws) = .val w :: .second :: lg_sl ws := by
        have : w.category = 2 := by rw [hc, hv']
        simp [lg_sl, this]
      rw [e2, hw]
      refine ⟨by simp [ih1], fun i u hu => ?_⟩
      match i with
      | 0 => simp at hu; subst hu; exact Or.inr ⟨w, by simp, r.1⟩
      | 1 => simp at hu; exact Or.inl hu.symm
      | i + 2 => simp at hu ⊢; exact ih2 i u hu
    cases v with
    | long x => exact h2 _ rfl rfl rfl
    | double x => exact h2 _ rfl rfl rfl
    | int x => exact h1 _ rfl rfl rfl
    | float x => exact h1 _ rfl rfl rfl
    | null => exact h1 _ rfl rfl rfl
    | ref x => exact h1 _ rfl rfl rfl
    | retAddr x => exact h1 _ rfl rfl rfl
theorem LR.entry {ρ o : Nat → Option Nat} {k : Nat} {as ws : List Value} (r : SR ρ o as ws) (h : (eL1 as).length ≤ mmax k) :
    LR ρ o (eL k as) ((lg_sl ws ++ List.replicate (mmax k - (lg_sl ws).length) Slot.unset).toArray) (mmax k) := by
  obtain ⟨h1, h2⟩ := eL1_get r
  obtain ⟨e1, e2, -⟩ := lv_entry ws (n := mmax k) (by omega)
  refine ⟨e1, by simp only [eL, List.length_append, List.length_replicate]; omega, e2, fun i v hv => ?_⟩
  by_cases hi : i < (eL1 as).length
  · rw [eL, List.getElem?_append_left hi] at hv
    refine (h2 i v hv).imp id fun ⟨w, g1, g2⟩ => ⟨w, ?_, g2⟩
    rw [List.getElem?_toArray, List.getElem?_append_left (by omega)]
    exact g1
  · rw [eL, List.getElem?_append_right (by omega), List.getElem?_replicate] at hv
    split at hv
    · cases hv; exact Or.inl rfl
    · cases hv
section SND
variable {G : Gw} {p : Program} {l : Launch} {e : Env} {R : Room} {s : State} {m : MethodId} {args : Array Value} {below : List Frame} {meth : Method} {c : Code} {H : Heap} {locs : List Loc} {cells slots mc ms : Nat} {Q : State → Prop}
variable {k pc x y z u : Nat} {L st mst : List Value} {hs : HS} {ρ ρ0 : Nat → Option Nat} {ls : Array Slot} {r : Rs} {v : Option Value}
/-- a return -/
theorem ret_W (C : CX G l k p R s m meth c) (hR : RetAt G k pc v ρ mst) (hr : r = (.inl v, hs)) (hH : HR G ρ hs H) (hE : Ext ρ0 ρ) (hl : ∀ z ∈ locs, gB G ≤ z.base) :
    W p l e R s m args below meth c H locs cells slots (vx_MQ below (Mret G ρ0 r) (Mthr G ρ0 r) args s cells slots (gW G)) (F0 m pc ls mst) := by
  subst hr
  obtain ⟨g, t, hx, hb, hml, hown, hnm, hret, hlk, het, hfr, hlo, hlay⟩ := C
  have post : ∀ (w : Option Value), OV ρ (gO G) v w → ∀ t : State, t.heap = H → s.WarmedH t.vm → Mret G ρ0 (.inl v, hs) args s (.returned w) t := fun w hw t ht _ => ⟨ρ, v, w, rfl, rfl, hE, by rw [ht]; exact hH, hw⟩
  refine vx_ret ?_
  rcases hR with ⟨a, rfl, rfl, hd, hf⟩ | ⟨a, rfl, rfl, hd, hf⟩ | ⟨a, rfl, rfl, hd, hf⟩ | ⟨a, rfl, rfl, hd, hf⟩ | ⟨a, q, rfl, rfl, hq, hd, hf⟩ | ⟨rfl, rfl, hd, hf⟩ | ⟨rfl, rfl, hd, hf⟩
  · cases ht : mret k with
    | none => rw [ht] at hf; cases hf
    | some ty =>
      rw [ht] at hf hret
      obtain ⟨n1, -⟩ := fit_ok (ρ := ρ) (o := gO G) (v := .int a) (w := .int a) rfl hf
      exact W.zret hx hb hret n1 (post _ rfl) hl hd hlk
  · cases ht : mret k with
    | none => rw [ht] at hf; cases hf
    | some ty =>
      rw [ht] at hf hret
      have : ty = .long := by cases ty <;> first | rfl | cases hf
      subst this
      exact W.lret hx hb hret (post _ rfl) hl hd hlk
  · cases ht : mret k with
    | none => rw [ht] at hf; cases hf
    | some ty =>
      rw [ht] at hf hret
      have : ty = .float := by cases ty <;> first | rfl | cases hf
      subst this
      exact W.fret hx hb hret (post _ rfl) hl hd hlk
  · cases ht : mret k with
    | none => rw [ht] at hf; cases hf
    | some ty =>
      rw [ht] at hf hret
      have : ty = .double := by cases ty <;> first | rfl | cases hf
      subst this
      exact W.dret hx hb hret (post _ rfl) hl hd hlk
  · cases ht : mret k with
    | none => rw [ht] at hf; cases hf
    | some ty =>
      rw [ht] at hf hret
      have hty : (∃ n, ty = .object n) ∨ ∃ t, ty = .array t := by
        cases ty <;> first | exact Or.inl ⟨_, rfl⟩ | exact Or.inr ⟨_, rfl⟩ | cases hf
      exact W.aret hx hb hret hty (Or.inr ⟨q, rfl⟩) (post _ ⟨q, hq, rfl⟩) hl hd hlk
  · cases ht : mret k with
    | none => rw [ht] at hf; cases hf
    | some ty =>
      rw [ht] at hf hret
      have hty : (∃ n, ty = .object n) ∨ ∃ t, ty = .array t := by
        cases ty <;> first | exact Or.inl ⟨_, rfl⟩ | exact Or.inr ⟨_, rfl⟩ | cases hf
      exact W.aret hx hb hret hty (Or.inl rfl) (post _ rfl) hl hd hlk
  · exact W.vret hx hb (by rw [hret, hf]) (post _ trivial) hl hd hlk
/-- what is known of the heap at the method's entry -/
def EH (G : Gw) (H0 : Heap) : Prop := gB G ≤ H0.size ∧ ∀ q, q < gB G → H0[q]? = (gS G).heap[q]?
/-- a throw -/
theorem thr_W {e' : Nat} (C : CX G l k p R s m meth c) (hE0 : EH G s.heap) (hv : chkV k = true) (hT : ThrAt k pc e' st) (hr : r = (.inr e', hsx hs)) (hH : HR G ρ hs H) (hE : Ext ρ0 ρ) (hL : LR ρ (gO G) L ls (mmax k)) (hS : SR ρ (gO G) st mst) (hl : ∀ z ∈ locs, gB G ≤ z.base) (hc : cells + 1 ≤ R.cells) (hs' : slots + 6 ≤ R.slots) :
    W p l e R s m args below meth c H locs cells slots (vx_MQ below (Mret G ρ0 r) (Mthr G ρ0 r) args s (cells + 1) (slots + 6) (gW G)) (F0 m pc ls mst) := by
  subst hr
  obtain ⟨g, t, hx, hb, hml, hown, hnm, hret, hlk, het, hfr, hlo, hlay⟩ := C
  obtain ⟨j, y, z, u, hm, hw, hd, he6, hst⟩ := hT
  have hpc : pc < mtop k := by
    unfold mcode at hm
    cases h : Nat.blt pc (mtop k) with
    | true => rw [Nat.blt_eq] at h; exact h
    | false => rw [h] at hm; cases hm
  have hv1 := List.all_eq_true.mp hv pc (List.mem_range.mpr hpc)
  rw [hm] at hv1
  dsimp only at hv1
  have hlt : Nat.blt (1000 + e') 7 = false := by rw [← Bool.not_eq_true, Nat.blt_eq]; omega
  rw [hlt, Bool.false_or, Bool.and_eq_true, Bool.and_eq_true, decide_eq_true_eq, Nat.add_sub_cancel_left, Nat.blt_eq] at hv1
  obtain ⟨⟨ho, hic⟩, hy9⟩ := hv1
  have hic := Nat.eq_of_beq_eq_true hic
  simp only [chkR, hlt, cond_false, Bool.and_eq_true, decide_eq_true_eq, Nat.add_sub_cancel_left] at hw
  obtain ⟨⟨⟨⟨⟨⟨-, -⟩, hcl⟩, hhh⟩, hd3⟩, hrest⟩, hstr⟩ := hw
  have hout : ∀ x ∈ c.exceptionTable.toList, ∀ q, covers x q = false := by
    intro x hx0
    rw [het, hhh] at hx0
    cases hx0
  have hstr' : ∃ tx sa, vk_R (mown k) (y % 100000) tx sa s := by
    split at hstr
    · next own j2 tx hq =>
      rw [Bool.and_eq_true, decide_eq_true_eq, decide_eq_true_eq] at hstr
      obtain ⟨sa, h1⟩ := g.2.2.2.2.2.2.1 own j2 tx (List.mem_of_getElem? hq)
      rw [hstr.1, hstr.2] at h1
      exact ⟨tx, sa, vk_R.warm t h1⟩
    · cases hstr
  obtain ⟨tx, sa, hsr⟩ := hstr'
  have hkp : ∀ {C n d : String}, vx_Zq C n d (gW G) (gS G) (gS G).heap → vx_Zq C n d (gW G) s s.heap := fun h => vx_Zq.moved t.alike (h.kept fun a _ hn => hE0.2 a (Nat.lt_of_not_le hn))
  have hatw : ∀ w ∈ Cond.initialized (eN e') :: xat e', w.before args s = true := fun w hw => wmv_at (atS_in he6 hw).2.2 t (g.1 w (atS_in he6 hw).1)
  have hx0 : ∀ t : State, s.vm.Alike t.vm → H.size ≤ t.heap.size → (∀ q : Nat, q < H.size → t.heap[q]? = H[q]?) → Mthr G ρ0 (.inr e', hsx hs) (eN e') s t := fun t _ h1 h2 => ⟨ρ, e', rfl, he6, rfl, hE, hH.more h1 h2⟩
  have hsum : (mst.map fun v => v.category).sum ≤ 8 := by have := hS.sum; omega
  have hlinkg : vx_ot (Cond.classLink (mown k) j (eN e')) = true := by unfold vx_ot; rw [(wat_in hcl).2, Bool.or_true]
  have hlink := t.word g (wat_in hcl) args
  rw [ho] at hsr hlink hlinkg hown
  intro T hTh X
  have hsz := (vx_frame X.same).1
  have hSa : va_S (gW G) s.heap H locs := ⟨by rw [← hTh]; exact hsz, fun q _ hn => by rw [hH.2.2.2.2.1.2 q (Nat.lt_of_not_le hn)]; exact (hE0.2 q (Nat.lt_of_not_le hn)).symm, hl⟩
  have key : W p l e R s m args below meth c H locs cells slots (vx_MQ below (Mret G ρ0 (.inr e', hsx hs)) (Mthr G ρ0 (.inr e', hsx hs)) args s (cells + 1) (slots + 6) (gW G)) (F0 m pc ls mst) := by
    by_cases h3 : e' = 3
    · subst h3
      cases hn : Nat.blt y 100000 with
      | true =>
        rw [hn, cond_true, Bool.and_eq_true, Bool.and_eq_true, decide_eq_true_eq, decide_eq_true_eq, decide_eq_true_eq] at hrest
        rw [Nat.blt_eq] at hn
        rw [Nat.mod_eq_of_lt hn] at hsr
        rw [hic] at hrest
        exact vx_throw3 hx hb g.2.2.2.2.2.1.1 hown hlink hsr hatw hlinkg (hkp g.2.2.2.2.2.1.2.1) (hkp g.2.2.2.2.2.1.2.2) hSa (hL.1.trans hml.symm) hd hd3 (Or.inl ⟨hrest.1.1, hrest.1.2, hrest.2⟩) (fun x hx q => hout x hx q) (by show 5 < R.frames; omega) (by show _ + (13 * 3 + 43) ≤ _; omega) hc hs' hlk hx0 hl
      | false =>
        rw [hn, cond_false, Bool.and_eq_true, Bool.and_eq_true, decide_eq_true_eq, decide_eq_true_eq, decide_eq_true_eq] at hrest
        have hn' : ¬ y < 100000 := by rw [← Nat.blt_eq, hn]; decide
        rw [hic] at hrest
        rw [show y % 100000 = y - 100000 by omega] at hsr
        exact vx_throw3 hx hb g.2.2.2.2.2.1.1 hown hlink hsr hatw hlinkg (hkp g.2.2.2.2.2.1.2.1) (hkp g.2.2.2.2.2.1.2.2) hSa (hL.1.trans hml.symm) hd hd3 (Or.inr ⟨hrest.1.1, hrest.1.2, hrest.2⟩) (fun x hx q => hout x hx q) (by show 5 < R.frames; omega) (by show _ + (13 * 3 + 43) ≤ _; omega) hc hs' hlk hx0 hl
    · have hxe : xat e' = vx_atS "SingleTrackLine" (icE e') (eN e') xnm := by
        unfold xat
        have : Nat.beq e' 3 = false := by rw [← Bool.not_eq_true, Nat.beq_eq]; exact h3
        rw [this]; rfl
      rw [hxe] at hatw
      have hgood : ∀ w ∈ Cond.classLink "SingleTrackLine" j (eN e') :: Cond.initialized (eN e') :: vx_atS "SingleTrackLine" (icE e') (eN e') xnm, vx_ot w = true := by
        intro w hw
        rcases List.mem_cons.mp hw with rfl | hw
        · exact hlinkg
        · rw [← hxe] at hw; exact (atS_in he6 hw).2.1
      cases hn : Nat.blt y 100000 with
      | true =>
        rw [hn, cond_true, Bool.and_eq_true, Bool.and_eq_true, decide_eq_true_eq, decide_eq_true_eq, decide_eq_true_eq] at hrest
        rw [Nat.blt_eq] at hn
        rw [Nat.mod_eq_of_lt hn] at hsr
        rw [hic] at hrest
        exact vx_throwS hx hb g.2.2.2.2.2.1.1 hown (fit_names.1 e' he6) fit_names.2 hlink (hatw _ List.mem_cons_self) hsr (fun w hw => hatw w (List.mem_cons_of_mem _ hw)) hgood (hkp g.2.2.2.2.2.1.2.1) (hkp g.2.2.2.2.2.1.2.2) hSa (hL.1.trans hml.symm) hd hd3 hrest.1.1 hrest.1.2 hrest.2 (fun x hx => hout x hx _) (by show 5 < R.frames; omega) (by show _ + (13 * 3 + 43) ≤ _; omega) hc hs' hlk hx0 hl (Nat.le_refl _) (Nat.le_refl _)
      | false =>
        rw [hn, cond_false, Bool.and_eq_true, Bool.and_eq_true, decide_eq_true_eq, decide_eq_true_eq, decide_eq_true_eq] at hrest
        have hn' : ¬ y < 100000 := by rw [← Nat.blt_eq, hn]; decide
        rw [hic] at hrest
        rw [show y % 100000 = y - 100000 by omega] at hsr
        exact vx_throwSW hx hb g.2.2.2.2.2.1.1 hown (fit_names.1 e' he6) fit_names.2 hlink (hatw _ List.mem_cons_self) hsr (fun w hw => hatw w (List.mem_cons_of_mem _ hw)) hgood (hkp g.2.2.2.2.2.1.2.1) (hkp g.2.2.2.2.2.1.2.2) hSa (hL.1.trans hml.symm) hd hd3 hrest.1.1 hrest.1.2 hrest.2 (fun x hx => hout x hx _) (by show 5 < R.frames; omega) (by show _ + (13 * 3 + 43) ≤ _; omega) hc hs' hlk hx0 hl (Nat.le_refl _) (Nat.le_refl _)
  exact key T hTh X
/-- the steps stay in the method -/
theorem stepI_k {k' pc' : Nat} {L' st' : List Value} {hs' : HS} (h : stepI k pc L st hs = some (.inr (.inl (k', pc', L', st', hs')))) : k' = k := by
  unfold stepI at h
  split at h
  · cases h
  · next i x y z u hm =>
    clear hm
    cases i <;> dsimp only at h <;> first
      | (cases h; done)
      | (cases h; rfl)
      | ((repeat' split at h) <;> first
          | (cases h; done)
          | (cases h; rfl)
          | (have := (cal_inv h).1; cases this; done)
          | (rw [Bool.cond_eq_ite] at h; split at h <;> (cases h; rfl)))
theorem stepI_code {so : SO} (h : stepI k pc L st hs = some so) : ∃ en, mcode k pc = some en := by
  unfold stepI at h
  split at h
  · cases h
  · next hm => exact ⟨_, hm⟩
theorem chkT_at (h : chkT k = true) {en : En} (hm : mcode k pc = some en) : chkE k pc en = true := by
  have hpc : pc < mtop k := by
    unfold mcode at hm
    cases h : Nat.blt pc (mtop k) with
    | true => rw [Nat.blt_eq] at h; exact h
    | false => rw [h] at hm; cases hm
  have h1 := List.all_eq_true.mp h pc (List.mem_range.mpr hpc)
  rw [hm] at h1
  exact h1
/-- the rows of a method's table, one by one -/
theorem mexc_row (hk : k < 282) : (mhh k).length = (mexc k).length ∧ ∀ (i : Nat) (q : Nat × Nat × Nat × Nat) (q' : Nat × Nat × Nat × Nat × Nat), (mhh k)[i]? = some q → (mexc k)[i]? = some q' → q = (q'.1, q'.2.1, q'.2.2.1, q.2.2.2) ∧ q'.2.2.2.1 < 6 ∧ q.2.2.2 ≠ 0 ∧ (Cond.classLink (mown k) q.2.2.2 (eN q'.2.2.2.1) ∈ lw_W ∧ goodWord (Cond.classLink (mown k) q.2.2.2 (eN q'.2.2.2.1)) = true) := by
  have h := List.all_eq_true.mp chkX_ok k (List.mem_range.mpr hk)
  unfold chkX at h
  rw [Bool.and_eq_true, decide_eq_true_eq] at h
  refine ⟨h.1, fun i q q' e1 e2 => ?_⟩
  have h2 := List.all_eq_true.mp h.2 (q, q') (List.mem_of_getElem? (i := i) (by rw [List.getElem?_zip_eq_some]; exact ⟨e1, e2⟩))
  simp only [Bool.and_eq_true, decide_eq_true_eq, Nat.blt_eq] at h2
  exact ⟨h2.1.1.1, h2.1.1.2, h2.1.2, wat_in h2.2⟩
/-- which row takes an exception -/
theorem hfind_at : ∀ (X : List (Nat × Nat × Nat × Nat × Nat)) (pc e h : Nat), hfind X pc e = some h → ∃ (i s t p : Nat), X[i]? = some (s, t, h, e, p) ∧ s ≤ pc ∧ pc < t ∧ ∀ (j : Nat) (q : Nat × Nat × Nat × Nat × Nat), j < i → X[j]? = some q → ¬ (q.1 ≤ pc ∧ pc < q.2.1 ∧ q.2.2.2.1 = e)
  | [], _, _, _, h => by cases h
  | (s, t, h0, c, p) :: X, pc, e, h, hh => by
    unfold hfind at hh
    split at hh
    · next hc =>
      cases hh
      obtain ⟨h1, h2, rfl⟩ := hc
      exact ⟨0, s, t, p, rfl, h1, h2, fun j q hj => by omega⟩
    · next hc =>
      obtain ⟨i, s', t', p', g1, g2, g3, g4⟩ := hfind_at X pc e h hh
      refine ⟨i + 1, s', t', p', by simpa using g1, g2, g3, fun j q hj hq => ?_⟩
      cases j with
      | zero => simp at hq; subst hq; exact hc
      | succ j => exact g4 j q (by omega) (by simpa using hq)
theorem hfind_no : ∀ (X : List (Nat × Nat × Nat × Nat × Nat)) (pc e : Nat), hfind X pc e = none → ∀ q ∈ X, ¬ (q.1 ≤ pc ∧ pc < q.2.1 ∧ q.2.2.2.1 = e)
  | [], _, _, _, q, hq => by cases hq
  | (s, t, h0, c, p) :: X, pc, e, hh, q, hq => by
    unfold hfind at hh
    split at hh
    · cases hh
    · next hc =>
      rcases List.mem_cons.mp hq with rfl | hq
      · exact hc
      · exact hfind_no X pc e hh q hq
/-- a row that doesn't take it -/
theorem row_pass (C : CX G l k p R s m meth c) (hk : k < 282) {i e' : Nat} (he : e' < 6) {z : ExceptionTableEntry} (hz : (tableOf (mhh k))[i]? = some z) (hn : ∀ q', (mexc k)[i]? = some q' → ¬ (q'.1 ≤ pc ∧ pc < q'.2.1 ∧ q'.2.2.2.1 = e')) :
    covers z pc = false ∨ (z.catchType ≠ 0 ∧ ∃ nm : String, (Cond.classLink (mown k) z.catchType nm).before args s = true ∧ va_Nc (eN e') nm s) := by
  obtain ⟨hlen, hrow⟩ := mexc_row hk
  unfold tableOf at hz
  rw [List.getElem?_map] at hz
  cases hq : (mhh k)[i]? with
  | none => rw [hq] at hz; cases hz
  | some q =>
    rw [hq] at hz
    cases hz
    have hi : i < (mexc k).length := by rw [← hlen]; exact (List.getElem?_eq_some_iff.mp hq).1
    obtain ⟨h1, h2, h3, h4⟩ := hrow i q _ hq (List.getElem?_eq_getElem hi)
    have h5 := hn _ (List.getElem?_eq_getElem hi)
    by_cases hcv : q.1 ≤ pc ∧ pc < q.2.1
    · refine Or.inr ⟨h3, _, C.2.1.word C.1 h4 args, va_Nc.moved C.2.1.alike (C.1.2.2.2.2.2.2.2.1 e' _ he h2 fun z => h5 ⟨?_, ?_, z.symm⟩)⟩
      · rw [h1] at hcv; exact hcv.1
      · rw [h1] at hcv; exact hcv.2
    · refine Or.inl ?_
      rw [← Bool.not_eq_true]
      simp only [covers, Bool.and_eq_true, decide_eq_true_eq]
      exact hcv
/-- caught -/
theorem caught_W {e' h : Nat} {q : Addr} {ce : Cell} {rest : List Value} (C : CX G l k p R s m meth c) (hk : k < 282) (he : e' < 6) (hf : hfind (mexc k) pc e' = some h) (hce : H[q]? = some ce) (hcv : ce.vm = .none) (hcl : s.vm.findClass (eN e') = some ce.cls)
    (kk : W p l e R s m args below meth c H locs cells slots Q (F0 m h ls [.ref q])) : vx_W p l e R s m args below meth c H locs cells slots Q (F0 m pc ls rest) q := by
  obtain ⟨i, s1, t1, p1, g1, g2, g3, g4⟩ := hfind_at _ _ _ _ hf
  obtain ⟨hlen, hrow⟩ := mexc_row hk
  have hi : i < (mhh k).length := by rw [hlen]; exact (List.getElem?_eq_some_iff.mp g1).1
  obtain ⟨h1, h2, h3, h4⟩ := hrow i _ _ (List.getElem?_eq_getElem hi) g1
  have hit : i < (tableOf (mhh k)).length := by unfold tableOf; rw [List.length_map]; exact hi
  have hx : (tableOf (mhh k))[i] = ⟨s1, t1, h, (mhh k)[i].2.2.2⟩ := by
    simp only [tableOf, List.getElem_map]
    rw [h1]
  have het := C.2.2.2.2.2.2.2.2.2.1
  have hsp : c.exceptionTable.toList = (tableOf (mhh k)).take i ++ ⟨s1, t1, h, (mhh k)[i].2.2.2⟩ :: (tableOf (mhh k)).drop (i + 1) := by
    rw [het, ← hx, List.getElem_cons_drop, List.take_append_drop]
  refine vx_catch (own := mown k) (name := eN e') C.2.2.2.2.2.1 _ _ _ hsp (fun z hz => ?_) ?_ h3 (C.2.1.word C.1 h4 args) (wmv_at (atS_in he (cast_in he)).2.2 C.2.1 (C.1.1 _ (atS_in he (cast_in he)).1)) hce hcv hcl kk
  · obtain ⟨j, hj, rfl⟩ := List.mem_take_iff_getElem.mp hz
    exact row_pass C hk he (i := j) (List.getElem?_eq_getElem (by omega)) (fun q' hq' => g4 j q' (by omega) hq')
  · simp only [covers, Bool.and_eq_true, decide_eq_true_eq]
    exact ⟨g2, g3⟩
/-- THE MACHINE FOLLOWS -/
theorem snd_main (hall : ∀ k, k < 282 → chkT k = true) (hV : ∀ k, k < 282 → chkV k = true) : ∀ (n k pc : Nat) (L st : List Value) (hs : HS) (r : Rs), ex n (k, pc, L, st, hs) = some r → k < 282 →
    ∀ {G : Gw} {p : Program} {l : Launch} {e : Env} {R : Room} {s : State} {m : MethodId} {args : Array Value} {below : List Frame} {meth : Method} {c : Code} {H : Heap} {locs : List Loc} {cells slots : Nat} {ρ ρ0 : Nat → Option Nat} {ls : Array Slot} {mst : List Value},
      CX G l k p R s m meth c → EH G s.heap → HR G ρ hs H → Ext ρ0 ρ → LR ρ (gO G) L ls (mmax k) → SR ρ (gO G) st mst → (∀ z ∈ locs, gB G ≤ z.base) → cells + dcc hs r ≤ R.cells → slots + dss hs r ≤ R.slots →
      W p l e R s m args below meth c H locs cells slots (vx_MQ below (Mret G ρ0 r) (Mthr G ρ0 r) args s (cells + dcc hs r) (slots + dss hs r) (gW G)) (F0 m pc ls mst) := by
  intro n
  induction n with
  | zero => intro k pc L st hs r h; cases h
  | succ n ih =>
    intro k pc L st hs r h hk G p l e R s m args below meth c H locs cells slots ρ ρ0 ls mst C hE0 hH hE hL hS hl hc hsl
    rw [ex] at h
    cases hso : stp (k, pc, L, st, hs) with
    | none => rw [hso] at h; cases h
    | some so =>
      rw [hso] at h
      have hstep : stepI k pc L st hs = some so := hso
      obtain ⟨⟨i, x, y, z, u⟩, hm⟩ := stepI_code hstep
      have hce := chkT_at (hall k hk) hm
      obtain r0 | c' | ⟨c', f⟩ := so
      · cases h
        rcases step_end hm hce hS hstep with ⟨v, rfl, hR⟩ | ⟨e', rfl, hT⟩
        · have h0 : dcc hs (Sum.inl v, hs) = 0 := Nat.sub_self _
          have h1 : dss hs (Sum.inl v, hs) = 0 := Nat.sub_self _
          rw [h0, h1]
          exact ret_W C hR rfl hH hE hl
        · have h0 : dcc hs (Sum.inr e', hsx hs) = 1 := Nat.add_sub_cancel_left _ _
          have h1 : dss hs (Sum.inr e', hsx hs) = 6 := Nat.add_sub_cancel_left _ _
          rw [h0] at hc ⊢
          rw [h1] at hsl ⊢
          exact thr_W C hE0 (hV k hk) hT rfl hH hE hL hS hl hc hsl
      · obtain ⟨k', pc', L', st', hs'⟩ := c'
        have hkk := stepI_k hstep
        subst hkk
        have q1 : CL hs hs' := stepI_cl hstep
        have q2 : CL hs' r.2 := ex_cl n _ _ h
        have e1 : dcc hs r = (hs'.2.2.1 - hs.2.2.1) + dcc hs' r := by have := q1.1; have := q2.1; simp only [dcc]; omega
        have e2 : dss hs r = (hs'.2.2.2 - hs.2.2.2) + dss hs' r := by have := q1.2; have := q2.2; simp only [dss]; omega
        rw [e1] at hc ⊢
        rw [e2] at hsl ⊢
        refine step_nx C hm hce hH hL hS hl ⟨by omega, by omega⟩ hstep ?_
        intro ρ' ls' ms' H' locs' hE' hH' hL' hS' hl'
        rw [← Nat.add_assoc, ← Nat.add_assoc]
        exact ih _ _ _ _ _ _ h hk C hE0 hH' (hE.tr hE') hL' hS' hl' (by omega) (by omega)
      · dsimp only at h
        obtain ⟨b, y', as, rest, mrest, rfl, rfl, hrk, hy, hcm, hel, hSr, hcall⟩ := step_call (e := e) (args := args) (below := below) (cells := cells) (slots := slots) (Q := vx_MQ below (Mret G ρ0 r) (Mthr G ρ0 r) args s (cells + dcc hs r) (slots + dss hs r) (gW G)) C hm hce hH hL hS hl hstep
        cases h1 : ex n (y', 0, eL y' as, [], hs) with
        | none => rw [h1] at h; cases h
        | some r1 =>
          rw [h1] at h
          dsimp only at h
          have q1 : CL hs r1.2 := ex_cl n _ _ h1
          have hM : Met1 G l y' as ρ hs r1 := by
            refine met1_of C.1 hcm ?_
            intro p e s m args below meth c s₁ B C' hP
            obtain ⟨⟨ws, rfl, hSw⟩, hHs, -⟩ := hP
            have hE1 : EH G s.heap := hHs.2.2.2.2.1
            have hh := ih y' 0 (eL y' as) [] hs r1 h1 hy (e := e) (args := ws.toArray) (below := below) (cells := 0) (slots := 0) (locs := []) (ρ0 := ρ) (mst := []) C' hE1 hHs Ext.rf (LR.entry hSw hel) trivial (fun z hz => nomatch hz) (by simp only [rmk]; omega) (by simp only [rmk]; omega)
            rw [Nat.zero_add, Nat.zero_add] at hh
            rw [lg_entry_eq]
            exact hh
          obtain ⟨v1 | e1, hs1⟩ := r1
          · cases hfr : aft b k pc L rest (Sum.inl v1, hs1) with
            | none => cases hfr
            | some y9 =>
              rw [hfr] at h
              cases hfr
              dsimp only at h
              have q2 : CL hs1 r.2 := ex_cl n _ _ h
              have e1 : dcc hs r = dcc hs (Sum.inl v1, hs1) + dcc hs1 r := by have := q1.1; have := q2.1; simp only [dcc] at *; omega
              have e2 : dss hs r = dss hs (Sum.inl v1, hs1) + dss hs1 r := by have := q1.2; have := q2.2; simp only [dss] at *; omega
              refine hcall _ (fun _ => ⟨v1, rfl⟩) hM (by omega) (by omega) ?_ ?_
              · intro ρ' v w H1 locs1 hv hE' hH' hOV hl'
                cases hv
                have hSS : SR ρ' (gO G) (v1.toList ++ rest) (w.toList ++ mrest) := by
                  refine SR.app ?_ (hSr.mono hE')
                  cases v1 with
                  | none => cases w with
                    | none => trivial
                    | some w => exact hOV.elim
                  | some v1 => cases w with
                    | none => exact hOV.elim
                    | some w => exact ⟨hOV, trivial⟩
                have hh := ih _ _ _ _ _ _ h hk (e := e) (args := args) (below := below) (cells := cells + dcc hs (Sum.inl v1, hs1)) (slots := slots + dss hs (Sum.inl v1, hs1)) C hE0 hH' (hE.tr hE') (hL.mono hE') hSS hl' (by omega) (by omega)
                rw [e1, e2, ← Nat.add_assoc, ← Nat.add_assoc]
                exact hh
              · intro _ ρ' e' q ce H1 locs1 hv
                cases hv
          · cases b with
            | false => cases h
            | true =>
              simp only [aft, cond_true] at h
              cases hf : hfind (mexc k) pc e1 with
              | none =>
                rw [hf] at h
                cases h
                refine hcall _ (fun z => nomatch z) hM hc hsl ?_ ?_
                · intro ρ' v w H1 locs1 hv
                  cases hv
                · intro _ ρ' e' q ce H1 locs1 hv he' hE' hH' hl' hce1 hcv1 hcl1
                  cases hv
                  refine vx_outP C.2.2.2.2.2.1 C.2.2.2.2.2.2.2.2.1 ?_ hce1 hcv1 hcl1 ?_ hl' (Nat.le_refl _) (Nat.le_refl _)
                  · intro z hz
                    rw [C.2.2.2.2.2.2.2.2.2.1] at hz
                    obtain ⟨i, hi, rfl⟩ := List.mem_iff_getElem.mp hz
                    exact row_pass C hk he' (List.getElem?_eq_getElem hi) (fun q' hq' => hfind_no _ _ _ hf q' (List.mem_of_getElem? hq'))
                  · intro t ht _
                    exact ⟨ρ', e1, rfl, he', rfl, hE.tr hE', by rw [ht]; exact hH'⟩
              | some hd =>
                rw [hf] at h
                dsimp only at h
                have q2 : CL hs1 r.2 := ex_cl n _ _ h
                have e2 : dcc hs r = dcc hs (Sum.inr e1, hs1) + dcc hs1 r := by have := q1.1; have := q2.1; simp only [dcc] at *; omega
                have e3 : dss hs r = dss hs (Sum.inr e1, hs1) + dss hs1 r := by have := q1.2; have := q2.2; simp only [dss] at *; omega
                refine hcall _ (fun z => nomatch z) hM (by omega) (by omega) ?_ ?_
                · intro ρ' v w H1 locs1 hv
                  cases hv
                · intro _ ρ' e' q ce H1 locs1 hv he' hE' hH' hl' hce1 hcv1 hcl1
                  cases hv
                  have hh := ih _ _ _ _ _ _ h hk (e := e) (args := args) (below := below) (cells := cells + dcc hs (Sum.inr e1, hs1)) (slots := slots + dss hs (Sum.inr e1, hs1)) (mst := [.ref q]) C hE0 hH' (hE.tr hE') (hL.mono hE') ⟨⟨q, rfl⟩, trivial⟩ hl' (by omega) (by omega)
                  rw [e2, e3, ← Nat.add_assoc, ← Nat.add_assoc]
                  exact caught_W C hk he' hf hce1 hcv1 hcl1 hh
end SND
