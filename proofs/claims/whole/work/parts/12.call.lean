/-! calls and ends -/
theorem cal_inv {b : Bool} {k pc y : Nat} {L st : List Value} {hs : HS} {so : SO} (h : cal b k pc L hs y st = some so) : so = .inr (.inr ((y, 0, eL y ((st.take (marg y)).reverse), [], hs), aft b k pc L (st.drop (marg y)))) ∧ marg y ≤ st.length ∧ (st.drop (marg y)).length ≤ 4 ∧ mrk y < mrk k ∧ (eL1 ((st.take (marg y)).reverse)).length ≤ mmax y := by
  unfold cal at h
  split at h
  · next hc => cases h; exact ⟨rfl, hc.1, hc.2.1, hc.2.2.1, hc.2.2.2.1⟩
  · cases h
section CAL
variable {G : Gw} {p : Program} {l : Launch} {e : Env} {R : Room} {s : State} {m : MethodId} {args : Array Value} {below : List Frame} {meth : Method} {c : Code} {H : Heap} {locs : List Loc} {cells slots : Nat} {Q : State → Prop}
variable {k pc x y z u : Nat} {L st mst : List Value} {hs : HS} {ρ : Nat → Option Nat} {ls : Array Slot}
def CallOK (G : Gw) (p : Program) (l : Launch) (e : Env) (R : Room) (s : State) (m : MethodId) (args : Array Value) (below : List Frame) (meth : Method) (c : Code) (H : Heap) (locs : List Loc) (cells slots : Nat) (Q : State → Prop) (k pc : Nat) (L mst : List Value) (hs : HS) (ρ : Nat → Option Nat) (ls : Array Slot) (c' : Cf) (f : Rs → Option (Rs ⊕ Cf)) : Prop :=
  ∃ (b : Bool) (y : Nat) (as rest mrest : List Value), c' = (y, 0, eL y as, [], hs) ∧ f = aft b k pc L rest ∧ mrk y < mrk k ∧ y < 282 ∧ chkM y = true ∧ (eL1 as).length ≤ mmax y ∧ SR ρ (gO G) rest mrest ∧
    ∀ r1 : Rs, (b = false → ∃ v, r1.1 = .inl v) → Met1 G l y as ρ hs r1 → cells + dcc hs r1 ≤ R.cells → slots + dss hs r1 ≤ R.slots →
      (∀ (ρ' : Nat → Option Nat) (v w : Option Value) (H1 : Heap) (locs1 : List Loc), r1.1 = .inl v → Ext ρ ρ' → HR G ρ' r1.2 H1 → OV ρ' (gO G) v w → (∀ z ∈ locs1, gB G ≤ z.base) → W p l e R s m args below meth c H1 locs1 (cells + dcc hs r1) (slots + dss hs r1) Q (F0 m (pc + 3) ls (w.toList ++ mrest))) →
      (b = true → ∀ (ρ' : Nat → Option Nat) (e' : Nat) (q : Addr) (ce : Cell) (H1 : Heap) (locs1 : List Loc), r1.1 = .inr e' → e' < 6 → Ext ρ ρ' → HR G ρ' r1.2 H1 → (∀ z ∈ locs1, gB G ≤ z.base) → H1[q]? = some ce → ce.vm = .none → s.vm.findClass (eN e') = some ce.cls → vx_W p l e R s m args below meth c H1 locs1 (cells + dcc hs r1) (slots + dss hs r1) Q (F0 m pc ls mrest) q) →
      W p l e R s m args below meth c H locs cells slots Q (F0 m pc ls mst)
theorem wl {g : GX G l} (t : GT G s) {w : Cond} (h : w ∈ lw_W ∧ goodWord w = true) : ∀ (a' : Array Value) (U : State), s.WarmedH U.vm → w.before a' U = true := fun a' U hW => word_at (State.WarmedH.trans t hW) (good_of_word h.2) (g.1 w h.1)
theorem callB1 (C : CX G l k p R s m meth c) {y j cc ss n : Nat} (hy : chkM y = true) (hh : mhh y = []) (hr : mrk y < mrk k) (hlink : (Cond.methodLink (mown k) j (mname y)).before args s = true) (hn : n + (bif mstat y then 0 else 1) = marg y) :
    CallB R s args (mown k) j (mname y) (mbytes y) (mmax y) (mret y) [mword y] (rmk y cc ss) cc ss n := by
  obtain ⟨g, t, hx, hb, hml, hown, hnm, hret, hlk, het, hfr, hlo, hlay⟩ := C
  obtain ⟨h1, h2, h3, h4, h5, h6, h7, h8⟩ := chkM_ok hy
  have hw := mword_code hh
  refine ⟨rfl, rfl, by simp only [rmk]; omega, by simp only [rmk]; omega, ?_, by rw [hw]; exact List.mem_cons_self, by rw [← hw]; exact t.word g h1 args, t.word g h2 args, h4, fun sig hs => by have := sig_len h6 hs; omega, hlink⟩
  intro w hw' a' U hW
  rw [List.mem_singleton.mp hw']
  exact wl (g := g) t h1 a' U hW
theorem mpre_at (C : CX G l k p R s m meth c) (hH : HR G ρ hs H) {as ws : List Value} (hS : SR ρ (gO G) as ws) : ∀ U : State, U.heap = H → s.WarmedH U.vm → Mpre G as ρ hs ws.toArray U := fun U hU hW => ⟨⟨ws, rfl, hS⟩, by rw [hU]; exact hH, State.WarmedH.trans C.2.1 hW⟩
theorem rest_w {rest mrest : List Value} (hS : SR ρ (gO G) rest mrest) (h : rest.length ≤ 4) : 2 * 0 + (mrest.map fun v => v.category).sum ≤ 8 := by have := hS.sum; omega
theorem s_callV {j : Nat} {c' : Cf} {f : Rs → Option (Rs ⊕ Cf)} (C : CX G l k p R s m meth c) (hm : mcode k pc = some (.invokevirtual j, x, y, z, u)) (hd : decode (mbytes k) pc = .ok (.invokevirtual j, 3)) (hw : chkR k pc (.invokevirtual j, x, y, z, u) = true) (hH : HR G ρ hs H) (hL : LR ρ (gO G) L ls (mmax k)) (hS : SR ρ (gO G) st mst) (hl : ∀ z ∈ locs, gB G ≤ z.base)
    (h : stepI k pc L st hs = some (.inr (.inr (c', f)))) : CallOK G p l e R s m args below meth c H locs cells slots Q k pc L mst hs ρ ls c' f := by
  unfold stepI at h
  rw [hm] at h
  dsimp only at h
  split at h
  · next b hb =>
    split at h
    · next hrv =>
      obtain ⟨h1, h2, h3, h4, h5⟩ := cal_inv h
      cases h1
      obtain ⟨q, As, hq, hrev, hmst, hlen⟩ := recv_split hS h2 hb
      obtain ⟨-, hSa, hSr, -⟩ := args_split hS h2
      rw [hrev] at hSa
      unfold recv at hrv
      split at hrv
      · next cc vs he =>
        have hcc : cc = u % 100 := Nat.eq_of_beq_eq_true hrv
        unfold chkR at hw
        dsimp only at hw
        split at hw
        · next hy0 =>
          simp only [Bool.and_eq_true, decide_eq_true_eq, Nat.blt_eq, Bool.not_eq_true'] at hw
          obtain ⟨⟨⟨⟨⟨⟨⟨w1, w2⟩, w3⟩, w4⟩, w5⟩, w6⟩, w7⟩, w8⟩ := hw
          obtain ⟨x1, x2, x3, x4, x5, x6, x7, x8⟩ := chkM_ok w3
          refine ⟨true, x, _, _, mst.drop (marg x), rfl, rfl, h4, w8, w3, h5, hSr, fun r1 _ hM hc hs' kk kx => ?_⟩
          obtain ⟨q', cell, f1, f2, f3, f4⟩ := hH.recv C.1 C.2.1 he (by omega)
          cases hq.symm.trans f1
          have hB := callB1 (args := args) (j := j) (cc := dcc hs r1) (ss := dss hs r1) (n := As.length) C w3 w4 h4 (C.2.1.word C.1 (wat_in w1) args) (by rw [w5]; exact hlen)
          have hCW : CallW R s args (mown k) (cN (u % 100)) j (mname x) (mbytes x) (mmax x) (mret x) [mword x] (rmk x (dcc hs r1) (dss hs r1)) (dcc hs r1) (dss hs r1) As.length := ⟨hB, C.2.1.word C.1 (x3.2 w5) args, C.2.1.word C.1 (wat_in w2) args⟩
          have hrun := vx_runV (locs := locs) (cells := cells) (slots := slots) (e := e) (below := below) (meth := meth) (Ts := []) ⟨C.2.2.1, C.2.2.2.1, C.2.2.2.2.1, C.2.2.2.2.2.1, fun w h => absurd h List.not_mem_nil⟩ hM hCW (H := H) (b := q) (As := As) ⟨Mpre_blind, ⟨cell, f2, f3, by rw [← hcc]; exact f4⟩, mpre_at C hH hSa⟩ (g := F0 m pc ls mst) (rest := mst.drop (marg x)) rfl rfl hL.1 hmst (rest_w hSr h3) hd ⟨hc, hs'⟩
          exact run_W hrun hl kk (kx rfl)
        · next hy0 =>
          simp only [Bool.and_eq_true, decide_eq_true_eq, Nat.blt_eq, Bool.not_eq_true'] at hw
          obtain ⟨⟨⟨⟨⟨⟨⟨⟨⟨w1, w2⟩, w3⟩, w4⟩, w5⟩, w6⟩, w7⟩, w8⟩, w9⟩, w10⟩ := hw
          obtain ⟨x1, x2, x3, x4, x5, x6, x7, x8⟩ := chkM_ok w4
          have hy3 : y = 3 := Nat.eq_of_beq_eq_true w9
          refine ⟨Nat.beq y 0, x, _, _, mst.drop (marg x), rfl, rfl, h4, w10, w4, h5, hSr, fun r1 hv hM hc hs' kk kx => ?_⟩
          obtain ⟨v1, hv1⟩ := hv (by rw [hy3]; rfl)
          obtain ⟨q', cell, f1, f2, f3, f4⟩ := hH.recv C.1 C.2.1 he (by omega)
          cases hq.symm.trans f1
          have hwd := mword_code w5
          have hCU : va_CU R s args (mown k) "SingleTrackLine$Command" "java/lang/Enum" j ⟨"SingleTrackLine$Command", "ordinal", "()I"⟩ (mname x) (mbytes x) (mmax x) (mret x) [mword x] (rmk x (dcc hs r1) (dss hs r1)) (dcc hs r1) (dss hs r1) As.length := by
            obtain ⟨g, t, hx, hb', hml, hown, hnm, hret, hlk, het, hfr, hlo, hlay⟩ := C
            refine ⟨⟨rfl, rfl, by simp only [rmk]; omega, by simp only [rmk]; omega, ?_, by rw [hwd]; exact List.mem_cons_self⟩, by rw [← hwd]; exact t.word g x1 args, t.word g x2 args, ⟨by decide, by decide⟩, fun sig hs9 => ?_, t.word g (wat_in w1) args, t.word g (mw_in (by simp [mwords])) args, va_Decl.abs (va_Nw.warmD t (va_Nw.of rfl (g.1 _ ao_ok.2.2))), t.word g (wat_in w2) args, t.word g (x3.2 w6) args⟩
            · intro w hw' a' U hW
              rw [List.mem_singleton.mp hw']
              exact wl (g := g) t x1 a' U hW
            · have h9 := sig_len x6 (sig := sig) (by rw [w3]; exact hs9)
              rw [w6] at h9
              simp only [cond_false] at h9
              omega
          have hrun := va_runU (locs := locs) (cells := cells) (slots := slots) (e := e) (below := below) (meth := meth) (Ts := []) ⟨C.2.2.1, C.2.2.2.1, C.2.2.2.2.1, C.2.2.2.2.2.1, fun w h => absurd h List.not_mem_nil⟩ (met1_met hv1 hM) hCU (H := H) (b := q) (As := As) ⟨Mpre_blind, ⟨cell, f2, f3, by rw [hcc, w8] at f4; exact f4⟩, mpre_at C hH hSa⟩ (g := F0 m pc ls mst) (rest := mst.drop (marg x)) rfl rfl hL.1 hmst (rest_w hSr h3) hd ⟨hc, hs'⟩
          exact run_Wr hrun hl kk
      · cases hrv
    · cases h
  · cases h
theorem s_callS {j : Nat} {c' : Cf} {f : Rs → Option (Rs ⊕ Cf)} (C : CX G l k p R s m meth c) (hm : mcode k pc = some (.invokestatic j, x, y, z, u)) (hd : decode (mbytes k) pc = .ok (.invokestatic j, 3)) (hw : chkR k pc (.invokestatic j, x, y, z, u) = true) (hH : HR G ρ hs H) (hL : LR ρ (gO G) L ls (mmax k)) (hS : SR ρ (gO G) st mst) (hl : ∀ z ∈ locs, gB G ≤ z.base)
    (h : stepI k pc L st hs = some (.inr (.inr (c', f)))) : CallOK G p l e R s m args below meth c H locs cells slots Q k pc L mst hs ρ ls c' f := by
  unfold stepI at h
  rw [hm] at h
  dsimp only at h
  split at h
  · (repeat' split at h) <;> first | (cases h; done) | (unfold nx at h; cases h)
  split at h
  · (repeat' split at h) <;> first | (cases h; done) | (unfold nx at h; cases h)
  split at h
  · (repeat' split at h) <;> first | (cases h; done) | (unfold nx at h; cases h)
  split at h
  · (repeat' split at h) <;> first | (cases h; done) | (unfold nx at h; cases h)
  next n8 n9 n10 n11 =>
  obtain ⟨h1, h2, h3, h4, h5⟩ := cal_inv h
  cases h1
  obtain ⟨hmst, hSa, hSr, hlen⟩ := args_split hS h2
  unfold chkR at hw
  dsimp only at hw
  split at hw
  · next hh => exact absurd rfl n8
  · next hh => exact absurd rfl n9
  · next hh => exact absurd rfl n10
  · next hh => exact absurd rfl n11
  · simp only [Bool.and_eq_true, Nat.blt_eq] at hw
    obtain ⟨⟨⟨⟨⟨w1, w2⟩, w3⟩, w4⟩, w5⟩, w6⟩ := hw
    obtain ⟨x1, x2, x3, x4, x5, x6, x7, x8⟩ := chkM_ok w2
    refine ⟨true, x, _, _, mst.drop (marg x), rfl, rfl, h4, w6, w2, h5, hSr, fun r1 _ hM hc hs' kk kx => ?_⟩
    cases hy1 : Nat.beq y 1 with
    | true =>
      rw [hy1, cond_true, decide_eq_true_eq] at w5
      have hB := callB1 (args := args) (j := j) (cc := dcc hs r1) (ss := dss hs r1) (n := ((mst.take (marg x)).reverse).length) C w2 w5 h4 (C.2.1.word C.1 (wat_in w1) args) (by rw [w3, hlen]; rfl)
      have hrun := vx_runS (locs := locs) (cells := cells) (slots := slots) (e := e) (below := below) (meth := meth) (Ts := []) ⟨C.2.2.1, C.2.2.2.1, C.2.2.2.2.1, C.2.2.2.2.2.1, fun w h => absurd h List.not_mem_nil⟩ hM ⟨hB, C.2.1.word C.1 (x3.1 w3) args⟩ (H := H) (As := (mst.take (marg x)).reverse) ⟨Mpre_blind, mpre_at C hH hSa⟩ (g := F0 m pc ls mst) (rest := mst.drop (marg x)) rfl rfl hL.1 hmst (rest_w hSr h3) hd ⟨hc, hs'⟩
      exact run_W hrun hl kk (kx rfl)
    | false =>
      rw [hy1, cond_false, Bool.and_eq_true, decide_eq_true_eq] at w5
      have hwd := mword_codeW w5.2
      have hCW : vx_CSW R s args (mown k) j (mname x) (mbytes x) (mmax x) (mret x) (mhh x) [mword x] (rmk x (dcc hs r1) (dss hs r1)) (dcc hs r1) (dss hs r1) ((mst.take (marg x)).reverse).length := by
        obtain ⟨g, t, hx, hb', hml, hown, hnm, hret, hlk, het, hfr, hlo, hlay⟩ := C
        refine ⟨⟨rfl, rfl, by simp only [rmk]; omega, by simp only [rmk]; omega, ?_, by rw [hwd]; exact List.mem_cons_self⟩, by rw [← hwd]; exact t.word g x1 args, t.word g x2 args, x4, fun sig hs9 => ?_, t.word g (wat_in w1) args, t.word g (x3.1 w3) args⟩
        · intro w hw' a' U hW
          rw [List.mem_singleton.mp hw']
          exact wl (g := g) t x1 a' U hW
        · have h9 := sig_len x6 hs9
          rw [w3] at h9
          simp only [cond_true] at h9
          omega
      have hrun := vx_runSX (locs := locs) (cells := cells) (slots := slots) (e := e) (below := below) (meth := meth) (Ts := []) ⟨C.2.2.1, C.2.2.2.1, C.2.2.2.2.1, C.2.2.2.2.2.1, fun w h => absurd h List.not_mem_nil⟩ hM hCW (H := H) (As := (mst.take (marg x)).reverse) ⟨Mpre_blind, mpre_at C hH hSa⟩ (g := F0 m pc ls mst) (rest := mst.drop (marg x)) rfl rfl hL.1 hmst (rest_w hSr h3) hd ⟨hc, hs'⟩
      exact run_W hrun hl kk (kx rfl)
theorem s_callI {j : Nat} {c' : Cf} {f : Rs → Option (Rs ⊕ Cf)} (C : CX G l k p R s m meth c) (hm : mcode k pc = some (.invokespecial j, x, y, z, u)) (hd : decode (mbytes k) pc = .ok (.invokespecial j, 3)) (hw : chkR k pc (.invokespecial j, x, y, z, u) = true) (hH : HR G ρ hs H) (hL : LR ρ (gO G) L ls (mmax k)) (hS : SR ρ (gO G) st mst) (hl : ∀ z ∈ locs, gB G ≤ z.base)
    (h : stepI k pc L st hs = some (.inr (.inr (c', f)))) : CallOK G p l e R s m args below meth c H locs cells slots Q k pc L mst hs ρ ls c' f := by
  unfold stepI at h
  rw [hm] at h
  dsimp only at h
  split at h
  · (repeat' split at h) <;> first | (cases h; done) | (unfold nx at h; cases h)
  next n7 =>
  split at h
  · next b hb =>
    split at h
    · next hrv =>
      obtain ⟨h1, h2, h3, h4, h5⟩ := cal_inv h
      cases h1
      obtain ⟨q, As, hq, hrev, hmst, hlen⟩ := recv_split hS h2 hb
      obtain ⟨-, hSa, hSr, -⟩ := args_split hS h2
      rw [hrev] at hSa
      unfold chkR at hw
      dsimp only at hw
      split at hw
      · next hh => exact absurd rfl n7
      · next hh =>
        simp only [Bool.and_eq_true, decide_eq_true_eq, Nat.blt_eq, Bool.not_eq_true'] at hw
        obtain ⟨⟨⟨⟨⟨⟨⟨⟨w1, w2⟩, w3⟩, w4⟩, w5⟩, w6⟩, w7⟩, w8⟩, w9⟩ := hw
        obtain ⟨x1, x2, x3, x4, x5, x6, x7, x8⟩ := chkM_ok w2
        have hrv' := hrv rfl
        unfold recv at hrv'
        split at hrv'
        · next cc vs he =>
          have hcc : cc = 6 := Nat.eq_of_beq_eq_true hrv'
          subst hcc
          refine ⟨false, x, _, _, mst.drop (marg x), rfl, rfl, h4, w9, w2, h5, hSr, fun r1 hv hM hc hs' kk kx => ?_⟩
          obtain ⟨v1, hv1⟩ := hv rfl
          obtain ⟨q', cell, f1, f2, f3, f4⟩ := hH.recv C.1 C.2.1 he (by omega)
          cases hq.symm.trans f1
          have hwd := mword_code w5
          have hCS : va_CS R s args (mown k) j (mname x) (mbytes x) (mmax x) (mret x) [mword x] (rmk x (dcc hs r1) (dss hs r1)) (dcc hs r1) (dss hs r1) As.length := by
            obtain ⟨g, t, hx, hb', hml, hown, hnm, hret, hlk, het, hfr, hlo, hlay⟩ := C
            refine ⟨⟨rfl, rfl, by simp only [rmk]; omega, by simp only [rmk]; omega, ?_, by rw [hwd]; exact List.mem_cons_self⟩, t.word g (wat_in w1) args, t.word g ⟨w6, rfl⟩ args, t.word g ⟨w7, rfl⟩ args, t.word g (x3.2 w3) args, t.word g x2 args, by rw [← hwd]; exact t.word g x1 args, w8, fun sig hs9 => ?_⟩
            · intro w hw' a' U hW
              rw [List.mem_singleton.mp hw']
              exact wl (g := g) t x1 a' U hW
            · have h9 := sig_len x6 hs9
              rw [w3] at h9
              simp only [cond_false] at h9
              omega
          have hat := (u_Kn_moved C.2.1.alike (C.1.2.1.1 6 _ rfl)).2
          have hrun := va_runSU (locs := locs) (cells := cells) (slots := slots) (e := e) (below := below) (meth := meth) (Ts := []) hat ⟨C.2.2.1, C.2.2.2.1, C.2.2.2.2.1, C.2.2.2.2.2.1, fun w h => absurd h List.not_mem_nil⟩ (met1_met hv1 hM) hCS (H := H) (b := q) (As := As) ⟨Mpre_blind, ⟨cell, f2, f3, f4⟩, mpre_at C hH hSa⟩ (g := F0 m pc ls mst) (rest := mst.drop (marg x)) rfl rfl hL.1 hmst (rest_w hSr h3) hd ⟨hc, hs'⟩
          exact run_Wr hrun hl kk
        · cases hrv'
      · next hh h4' =>
        simp only [Bool.and_eq_true, decide_eq_true_eq, Nat.blt_eq, Bool.not_eq_true'] at hw
        obtain ⟨⟨⟨⟨⟨⟨⟨w1, w2⟩, w3⟩, w4⟩, w5⟩, w6⟩, w7⟩, w8⟩ := hw
        obtain ⟨x1, x2, x3, x4, x5, x6, x7, x8⟩ := chkM_ok w2
        refine ⟨false, x, _, _, mst.drop (marg x), rfl, rfl, h4, w8, w2, h5, hSr, fun r1 hv hM hc hs' kk kx => ?_⟩
        obtain ⟨v1, hv1⟩ := hv rfl
        have hM' := met1_met hv1 hM
        cases hy2 : Nat.beq y 2 with
        | true =>
          rw [hy2, cond_true] at w1
          have hB := callB1 (args := args) (j := j) (cc := dcc hs r1) (ss := dss hs r1) (n := As.length) C w2 w5 h4 (C.2.1.word C.1 (wat_in w1) args) (by rw [w3]; exact hlen)
          rw [w6] at hB
          have hrun := va_runI (locs := locs) (cells := cells) (slots := slots) (e := e) (below := below) (meth := meth) (Ts := []) ⟨C.2.2.1, C.2.2.2.1, C.2.2.2.2.1, C.2.2.2.2.2.1, fun w h => absurd h List.not_mem_nil⟩ hM' ⟨hB, w7, C.2.1.word C.1 (x3.2 w3) args⟩ (H := H) (b := q) (As := As) ⟨Mpre_blind, mpre_at C hH hSa⟩ (g := F0 m pc ls mst) (rest := mst.drop (marg x)) rfl rfl hL.1 hmst (rest_w hSr h3) hd ⟨hc, hs'⟩
          exact run_Wr hrun hl kk
        | false =>
          rw [hy2, cond_false, Bool.and_eq_true] at w1
          have hwd := mword_code w5
          have hCN : va_CN R s args (mown k) j (mname x) "SingleTrackLine" (mbytes x) (mmax x) none [mword x] (rmk x (dcc hs r1) (dss hs r1)) (dcc hs r1) (dss hs r1) As.length := by
            obtain ⟨g, t, hx, hb', hml, hown, hnm, hret, hlk, het, hfr, hlo, hlay⟩ := C
            rw [w6] at hwd
            refine ⟨⟨rfl, rfl, by simp only [rmk]; omega, by simp only [rmk]; omega, ?_, by rw [hwd]; exact List.mem_cons_self⟩, by rw [← hwd]; exact t.word g x1 args, t.word g x2 args, x4, fun sig hs9 => ?_, va_Nw.use rfl (va_Nw.warmM t (va_Nw.of rfl (g.1 _ (watN_in w1.2))))⟩
            · intro w hw' a' U hW
              rw [List.mem_singleton.mp hw']
              exact wl (g := g) t x1 a' U hW
            · have h9 := sig_len x6 hs9
              rw [w3] at h9
              simp only [cond_false] at h9
              omega
          have hrun := va_runIN (locs := locs) (cells := cells) (slots := slots) (e := e) (below := below) (meth := meth) (Ts := []) ⟨C.2.2.1, C.2.2.2.1, C.2.2.2.2.1, C.2.2.2.2.2.1, fun w h => absurd h List.not_mem_nil⟩ hM' ⟨hCN, w7, C.2.1.word C.1 (x3.2 w3) args⟩ (H := H) (b := q) (As := As) ⟨Mpre_blind, mpre_at C hH hSa⟩ (g := F0 m pc ls mst) (rest := mst.drop (marg x)) rfl rfl hL.1 hmst (rest_w hSr h3) hd ⟨hc, hs'⟩
          exact run_Wr hrun hl kk
    · cases h
  · cases h
end CAL
