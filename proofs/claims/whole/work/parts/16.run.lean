/-! THE CLAIM OUT OF ONE WALK OF THE LAW'S BODY. Your part is whole_start (and what it stands on); all else here is the same for every law, but numbers. -/
def R_law : String := "SingleTrackLineLaw"
def lw_P (b : Addr) (xs : List Int32) (args : Array Value) (s : State) : Prop := args = #[.ref b] ∧ s.IntsAt b xs ∧ xs.length ≤ 2048 ∧ (Jvm.Cond.and given_1 narrow_1).before args s = true
/-- what a walk over the start with the record d0 says of its end, said of the start itself -/
theorem lw_closed {s t : State} {o : Outcome} {d0 : Drawn} {L : List Loc} {k n : Nat} (hd0 : s.drawn.sameBut d0 lw_cs) (hv : ∃ v, o = .returned v) (hW : (s.setDrawn d0).WarmedH t.vm) (hs : (s.setDrawn d0).sameButNew ({ t with vm := s.vm } : State) L k n) : State.butDraws s t lw_cs (fun t1 => Framed s o t1 L k n) := by
  have h2 : t.drawn = d0 := congrArg State.drawn hs.1
  refine ⟨⟨hv, hW, State.sameButNew.setDrawn hs s.drawn⟩, ?_, by decide⟩
  rw [h2]
  exact hd0
def lw_Q (_ : Array Value) (s : State) (o : Outcome) (t : State) : Prop := o = .returned (some (.int 1)) ∧ State.butDraws s t lw_cs (fun t1 => Framed s o t1 [] 603072 7194730)
def lw_Z (below : List Frame) (a : Array Value) (s : State) : State → Prop := fun t => ∃ o, t.status = .running ∧ Ended t below o ∧ lw_Q a s o t
/-- the law's own end, with 1 on the stack, nothing written that was there before, its room as the claim has it; d0: the record of draws at this point (at the entry s.drawn: begin with 'refine W.base ?_' and 'have hd0 := Drawn.sameBut.refl s.drawn lw_cs') -/
theorem lw_ret {p : Program} {l : Launch} {e : Env} {s : State} {m : MethodId} {below : List Frame} {meth : Method} {c : Code} {b : Nat} {d0 : Drawn} (hd0 : s.drawn.sameBut d0 lw_cs) (hx : p.tables.exec = Jvm.exec) (hb : c.code = code) (hr : meth.sig.returnType = ret) (hlocks : meth.locks = false) {pc : Nat} {H : Heap} {ls : Array Slot} (hdg : decode code pc = .ok (.ireturn, 1)) : W p l e room_1 (s.setDrawn d0) m #[Value.ref b] below meth c H [] 603072 7194730 (lw_Z below #[Value.ref b] s) (F0 m pc ls [.int 1]) := by
  intro T hT X
  obtain ⟨fs, hret, hrun, hended, hW, hframe⟩ := X.leave (v := some (.int 1)) (hlocks := hlocks) (fun h => by rw [hr] at h; cases h)
  have hmeth' : T.vm.method? m = some meth := X.method'
  refine ⟨T.setFrames fs, ?_, .returned (some (.int 1)), hrun, hended, rfl, lw_closed hd0 ⟨_, rfl⟩ hW hframe⟩
  jvm_step X.here [X.here.top, hx, hb, hdg, hmeth', hr, ret, narrow_b1]
  (try refine ⟨rfl, ?_⟩); (try refine ⟨rfl, ?_⟩)
  first | (intro acts; rw [hret _ acts rfl rfl rfl]) | rw [hret _ _ rfl rfl rfl]
  exact Steps.refl _
/-- what holds at the law's entry: the machine, the code, the tables' words (any of lw_tbl by 'hts w (by decide +kernel)'), the script of L ints xs at the cell b, what the Statement gives of the start (any of its parts by flat_of_before) -/
def lw_At (p : Program) (s : State) (m : MethodId) (meth : Method) (c : Code) (b L : Nat) (xs : Nat → Int32) : Prop :=
  p.tables.exec = Jvm.exec ∧ c.code = code ∧ meth.sig.returnType = ret ∧ c.maxLocals = 9 ∧ s.vm.findClass R_law = some m.cls ∧ (∀ w ∈ lw_tbl, w.before #[Value.ref b] s = true) ∧ va_X b L xs s s.heap ∧ b < s.heap.size ∧ meth.locks = false ∧ (Jvm.Cond.and given_1 narrow_1).before #[Value.ref b] s = true
theorem W_post {p : Program} {l : Launch} {e : Env} {R : Room} {s : State} {m : MethodId} {args : Array Value} {below : List Frame} {meth : Method} {c : Code} {H : Heap} {locs : List Loc} {cells slots : Nat} {Q Q' : State → Prop} {g : JFrame} (h : W p l e R s m args below meth c H locs cells slots Q g) (f : ∀ t, Q t → Q' t) : W p l e R s m args below meth c H locs cells slots Q' g := fun T hT X => by
  obtain ⟨t, a1, a2⟩ := h T hT X
  exact ⟨t, a1, f t a2⟩
theorem law_d2 : mbytes 281 = code := by rfl
theorem law_d1 : mmax 281 = 9 ∧ mret 281 = ret ∧ mown 281 = R_law ∧ (mname 281).name = x.name ∧ mhh 281 = [] ∧ mrk 281 ≤ 11 ∧ room_1.cells = 603072 ∧ room_1.slots = 7194730 ∧ 21 ≤ room_1.frames ∧ 640 ≤ room_1.locals := by decide +kernel
/-- the law's run, out of the pure machine's -/
theorem law_run (hall : ∀ k, k < 282 → chkT k = true) (hV : ∀ k, k < 282 → chkV k = true) {p : Program} (l : Launch) (hflags : l.flags = flags0) {e : Env} {s : State} {m : MethodId} {below : List Frame} {meth : Method} {c : Code} {b : Nat} {xs : List Int32} (hlen : xs.length ≤ 2048)
    (A : lw_At p s m meth c b xs.length (fun j => xs.getD j 0)) (hnm : meth.name = x.name) (het : c.exceptionTable.toList = [])
    {n : Nat} {r : Rs} (hrun : ex n (281, 0, eL 281 [.ref 0], [], (hcx xs, N0, 0, 0)) = some r) (hr : r.1 = .inl (some (.int 1))) (hc : r.2.2.2.1 ≤ 603072) (hs : r.2.2.2.2 ≤ 7194730) :
    W p l e room_1 s m #[Value.ref b] below meth c s.heap [] 0 0 (lw_Z below #[Value.ref b] s) (entryFrame m ([Value.ref b] : List Value).toArray 9) := by
  obtain ⟨hx, hb, hret, hml, hown, hts, hX, hbl, hlk, hgv⟩ := A
  obtain ⟨D, I, K, hG, hH⟩ := gx_ok (xs := xs) hflags (fun w hw => flat_of_before _ hgv w hw) hts hX (by omega)
  have d1 := law_d2
  obtain ⟨d2, d3, d4, d5, d6, d7, d8, d9, d10, d11⟩ := law_d1
  have C : CX (Gx s b xs D I K) l 281 p room_1 s m meth c := ⟨hG, State.WarmedH.refl s, hx, by rw [hb, d1], by rw [hml, d2], by rw [d4]; exact hown, by rw [hnm, d5], by rw [hret, d3], hlk, by rw [het, d6]; rfl, by omega, by omega, lays_ok⟩
  have e0 : gC (Gx s b xs D I K) 0 = b := Gx_C rfl
  have hS : SR (rho0 (Gx s b xs D I K)) (gO (Gx s b xs D I K)) [.ref 0] [.ref b] := ⟨⟨b, by
    show (if 0 < N0 then some (gC (Gx s b xs D I K) 0) else none) = some b
    rw [if_pos (by decide), e0], rfl⟩, trivial⟩
  have hr1 : dcc (hcx xs, N0, 0, 0) r = r.2.2.2.1 := Nat.sub_zero _
  have hr2 : dss (hcx xs, N0, 0, 0) r = r.2.2.2.2 := Nat.sub_zero _
  have h := snd_main hall hV n 281 0 _ _ _ _ hrun (by decide) (p := p) (e := e) (R := room_1) (args := #[Value.ref b]) (below := below) (locs := []) (cells := 0) (slots := 0) (ρ0 := rho0 (Gx s b xs D I K)) (mst := []) C ⟨Nat.le_refl _, fun _ _ => rfl⟩ hH Ext.rf (LR.entry hS (by decide)) trivial (fun z hz => nomatch hz) (by omega) (by omega)
  rw [← lg_entry_eq] at h
  rw [d2] at h
  refine W_post h fun t ht => ?_
  obtain ⟨o, h1, h2, h3⟩ := ht
  refine ⟨o, h1, h2, ?_⟩
  rcases h3 with ⟨⟨ρ', v, w, q1, q2, q3, q4, q5⟩, L, hF, hfree⟩ | ⟨q, -, E, ce, L, ⟨ρ', e', q1, -⟩, -⟩
  · rw [hr] at q1
    cases q1
    cases w with
    | none => exact q5.elim
    | some w =>
      have hw : w = .int 1 := q5
      subst hw
      refine ⟨q2, ?_⟩
      obtain ⟨hv, hWm, hsb⟩ := hF
      have hsd : s.setDrawn s.drawn = s := rfl
      exact lw_closed (d0 := s.drawn) (Drawn.sameBut.refl s.drawn lw_cs) hv (by rw [hsd]; exact hWm) (by rw [hsd]; exact hsb.weaken (fun z hz hlt => absurd hlt (Nat.not_lt.mpr (hfree z hz))) (by omega) (by omega))
  · rw [hr] at q1
    cases q1
