/-! contracts of methods, out of what the pure machine answers -/
def OV (ρ o : Nat → Option Nat) (v w : Option Value) : Prop := match v, w with
  | none, none => True
  | some v, some w => VR ρ o v w
  | _, _ => False
def mword (k : Nat) : Cond := match mhh k with
  | [] => .code (mname k) (mbytes k) (mmax k) (mret k)
  | hh => .codeWith (mname k) (mbytes k) (mmax k) (mret k) hh
def rmk (k c s : Nat) : Room := { frames := 10 + mrk k, cells := c, slots := s, locals := 200 + 40 * mrk k }
def Mpre (G : Gw) (as : List Value) (ρ : Nat → Option Nat) (hs : HS) : Array Value → State → Prop := fun a U => (∃ ws : List Value, a = ws.toArray ∧ SR ρ (gO G) as ws) ∧ HR G ρ hs U.heap ∧ GT G U
def Mret (G : Gw) (ρ : Nat → Option Nat) (r : Rs) : Array Value → State → Outcome → State → Prop := fun _ _ oc t => ∃ (ρ' : Nat → Option Nat) (v w : Option Value), r.1 = .inl v ∧ oc = .returned w ∧ Ext ρ ρ' ∧ HR G ρ' r.2 t.heap ∧ OV ρ' (gO G) v w
def Mthr (G : Gw) (ρ : Nat → Option Nat) (r : Rs) : String → State → State → Prop := fun E _ t => ∃ (ρ' : Nat → Option Nat) (e : Nat), r.1 = .inr e ∧ e < 6 ∧ E = eN e ∧ Ext ρ ρ' ∧ HR G ρ' r.2 t.heap
abbrev dcc (hs : HS) (r : Rs) : Nat := r.2.2.2.1 - hs.2.2.1
abbrev dss (hs : HS) (r : Rs) : Nat := r.2.2.2.2 - hs.2.2.2
def Met1 (G : Gw) (l : Launch) (k : Nat) (as : List Value) (ρ : Nat → Option Nat) (hs : HS) (r : Rs) : Prop :=
  vx_Met l (mname k) [mword k] (rmk k (dcc hs r) (dss hs r)) (Mpre G as ρ hs) (Mret G ρ r) (Mthr G ρ r) (dcc hs r) (dss hs r) (gW G)
theorem chkM_ok {k : Nat} (h : chkM k = true) : (mword k ∈ lw_W ∧ goodWord (mword k) = true) ∧ (Cond.initialized (mname k).cls ∈ lw_W ∧ goodWord (Cond.initialized (mname k).cls) = true) ∧
    ((mstat k = true → Cond.static (mname k) ∈ lw_W ∧ goodWord (Cond.static (mname k)) = true) ∧ (mstat k = false → Cond.instanceMethod (mname k) ∈ lw_W ∧ goodWord (Cond.instanceMethod (mname k)) = true)) ∧
    ((mname k).cls ≠ "java/lang/invoke/MethodHandle" ∧ (mname k).cls ≠ "java/lang/invoke/VarHandle") ∧ plainFor (mname k) = true ∧ (parseMethodDescriptor (mname k).desc).map (fun d => d.parameters.length + (bif mstat k then 0 else 1)) = some (marg k) ∧ mmax k ≤ 21 ∧ mown k = (mname k).cls := by
  simp only [chkM, Bool.and_eq_true, decide_eq_true_eq] at h
  obtain ⟨⟨⟨⟨⟨⟨⟨⟨⟨h1, h2⟩, h3⟩, h4⟩, h5⟩, h6⟩, h7⟩, h8⟩, h9⟩, -⟩ := h
  refine ⟨?_, wat_in h2, ⟨fun z => ?_, fun z => ?_⟩, ⟨h4, h5⟩, h6, h7, h8, h9⟩
  · unfold mword
    split
    · next z => rw [z] at h1; exact wat_in h1
    · next z => split at h1
                · next z' => exact absurd z' z
                · exact wat_in h1
  · rw [z] at h3; exact wat_in h3
  · rw [z] at h3; exact wat_in h3
theorem mword_code {k : Nat} (h : mhh k = []) : mword k = .code (mname k) (mbytes k) (mmax k) (mret k) := by unfold mword; rw [h]
theorem mword_codeW {k : Nat} (h : mhh k ≠ []) : mword k = .codeWith (mname k) (mbytes k) (mmax k) (mret k) (mhh k) := by
  unfold mword
  split
  · next z => exact absurd z h
  · rfl
theorem sig_len {k : Nat} (h : (parseMethodDescriptor (mname k).desc).map (fun d => d.parameters.length + (bif mstat k then 0 else 1)) = some (marg k)) {sig : MethodDescriptor} (hs : parseMethodDescriptor (mname k).desc = some sig) : sig.parameters.length + (bif mstat k then 0 else 1) = marg k := by
  rw [hs] at h
  exact Option.some.inj h
/-- what is known at a method's first instruction -/
theorem met1_of {G : Gw} {l : Launch} {k : Nat} {as : List Value} {ρ : Nat → Option Nat} {hs : HS} {r : Rs} (g : GX G l) (hc : chkM k = true)
    (body : ∀ p e s m args below meth c s₁, BodyLoose p l (mname k) (headSpec [mword k] (rmk k (dcc hs r) (dss hs r))) (mbytes k) (mmax k) (mret k) e s m args below meth c s₁ → CX G l k p (rmk k (dcc hs r) (dss hs r)) s m meth c → Mpre G as ρ hs args s →
      W p l e (rmk k (dcc hs r) (dss hs r)) s m args below meth c s.heap [] 0 0 (vx_MQ below (Mret G ρ r) (Mthr G ρ r) args s (dcc hs r) (dss hs r) (gW G)) (entryFrame m args (mmax k))) : Met1 G l k as ρ hs r := by
  obtain ⟨h1, h2, h3, h4, h5, h6, h7, h8⟩ := chkM_ok hc
  refine MetFree.of_bodySF (code := mbytes k) (maxLocals := mmax k) (ret := mret k) h5 ?_ ?_
  · intro args s m h hn
    have hw := atoms_spec (ws := [mword k]) h _ List.mem_cons_self
    by_cases hz : mhh k = []
    · rw [mword_code hz] at hw
      obtain ⟨meth, c, a1, a2, a3, a4, a5, a6, -, -⟩ := Cond.code_spec hn hw
      exact ⟨meth, c, a1, a2, a3, a4, a5, a6⟩
    · rw [mword_codeW hz] at hw
      obtain ⟨m9, meth, c, hn9, a1, a2, a3, a4, -, a5, a6, -⟩ := Cond.codeWith_spec hw
      cases hn.symm.trans hn9
      exact ⟨meth, c, a1, a2, a3, a4, a5, a6⟩
  · intro p e s m args below meth c s₁ B hml hP _
    have hh0 : s₁.heap = s.heap := by rw [B.state]; rfl
    have hw := atoms_spec (ws := [mword k]) B.pre _ List.mem_cons_self
    have hown : s.vm.findClass (mown k) = some m.cls := by rw [h8]; exact findClass_of_methodNamed B.named
    have het : c.exceptionTable.toList = tableOf (mhh k) := by
      by_cases hz : mhh k = []
      · rw [mword_code hz] at hw
        obtain ⟨meth9, c9, k1, k2, -, -, -, -, k7, -⟩ := Cond.code_spec B.named hw
        cases Option.some.inj (k1.symm.trans B.method)
        cases Option.some.inj (k2.symm.trans (Stand.of_body B).code)
        rw [Array.isEmpty_iff.mp k7, hz]
        rfl
      · rw [mword_codeW hz] at hw
        exact vx_table (x := mname k) B hw
    have hC : CX G l k p (rmk k (dcc hs r) (dss hs r)) s m meth c := ⟨g, hP.2.2, B.exec, B.bytes, hml, hown, (name_of_methodNamed B.named B.method).1, B.returns, B.notSynchronized, het, Nat.le_refl _, Nat.le_refl _, lays_ok⟩
    obtain ⟨t, a1, o, b1, b2, b3⟩ := body p e s m args below meth c s₁ B hC hP s₁ hh0 (Stand.of_body B)
    exact ⟨t, o, a1, b1, b2, b3⟩
/-- a contract that never throws, as the kit's plain one -/
theorem met1_met {G : Gw} {l : Launch} {k : Nat} {as : List Value} {ρ : Nat → Option Nat} {hs : HS} {r : Rs} {v : Option Value} (hv : r.1 = .inl v) (h : Met1 G l k as ρ hs r) : Met l (mname k) [mword k] (rmk k (dcc hs r) (dss hs r)) (Mpre G as ρ hs) (Mret G ρ r) (dcc hs r) (dss hs r) (gW G) := by
  intro p e ha hc hk s m args below hf happ hP hK
  obtain ⟨n, o, h1, h2, h3, h4⟩ := h p e ha hc hk s m args below hf happ hP hK
  refine ⟨n, o, h1, h2, h3, ?_⟩
  rcases h4 with h4 | ⟨q, -, E, ce, L, ⟨ρ', e', z, -⟩, -⟩
  · exact h4
  · rw [hv] at z; cases z
section RUN
variable {G : Gw} {p : Program} {l : Launch} {e : Env} {R : Room} {s : State} {m : MethodId} {args a : Array Value} {below : List Frame} {meth : Method} {c : Code} {H : Heap} {locs : List Loc} {cells slots mc ms : Nat} {Q : State → Prop}
variable {k pc x : Nat} {ρ : Nat → Option Nat} {ls : Array Slot} {mst rest : List Value} {r : Rs}
theorem run_W (hr : vx_Run p l e R s m args below meth c H locs cells slots mc ms (F0 m pc ls mst) rest (Mret G ρ r a) (Mthr G ρ r) (gW G)) (hl : ∀ z ∈ locs, gB G ≤ z.base)
    (kk : ∀ (ρ' : Nat → Option Nat) (v w : Option Value) (H1 : Heap) (locs1 : List Loc), r.1 = .inl v → Ext ρ ρ' → HR G ρ' r.2 H1 → OV ρ' (gO G) v w → (∀ z ∈ locs1, gB G ≤ z.base) → W p l e R s m args below meth c H1 locs1 (cells + mc) (slots + ms) Q (F0 m (pc + 3) ls (w.toList ++ rest)))
    (kx : ∀ (ρ' : Nat → Option Nat) (e' : Nat) (q : Addr) (ce : Cell) (H1 : Heap) (locs1 : List Loc), r.1 = .inr e' → e' < 6 → Ext ρ ρ' → HR G ρ' r.2 H1 → (∀ z ∈ locs1, gB G ≤ z.base) → H1[q]? = some ce → ce.vm = .none → s.vm.findClass (eN e') = some ce.cls → vx_W p l e R s m args below meth c H1 locs1 (cells + mc) (slots + ms) Q (F0 m pc ls rest) q) :
    W p l e R s m args below meth c H locs cells slots Q (F0 m pc ls mst) := by
  have hLL : ∀ L : List Loc, (∀ q ∈ L, gW G q.base) → ∀ z ∈ locs ++ L, gB G ≤ z.base := by
    intro L hL z hz
    rcases List.mem_append.mp hz with h | h
    · exact hl z h
    · exact hL z h
  intro T hT X
  rcases hr T hT X with ⟨v0, st₀, t, T', L, h0, X', hL, e1, e2, ⟨ρ', v, w, q1, q2, q3, q4, q5⟩, st⟩ | ⟨q, st₀, t, T', L, E, ce, h0, X', hL, e1, e2, ⟨ρ', e', q1, q2, q3, q4, q5⟩, hce, hcv, hcl, st⟩
  · cases q2
    obtain ⟨t2, a1, b1⟩ := kk ρ' v v0 T'.heap (locs ++ L) q1 q3 (by rw [e1]; exact q4) q5 (hLL L hL) T' rfl X'
    exact ⟨t2, st t2 a1, b1⟩
  · subst q3
    obtain ⟨t2, a1, b1⟩ := kx ρ' e' q ce T'.heap (locs ++ L) q1 q2 q4 (by rw [e1]; exact q5) (hLL L hL) (by rw [e1]; exact hce) hcv hcl T' rfl X'
    exact ⟨t2, st.trans a1, b1⟩
theorem run_Wr (hr : va_Run p l e R s m args below meth c H locs cells slots mc ms (F0 m pc ls mst) rest (Mret G ρ r a) (gW G)) (hl : ∀ z ∈ locs, gB G ≤ z.base)
    (kk : ∀ (ρ' : Nat → Option Nat) (v w : Option Value) (H1 : Heap) (locs1 : List Loc), r.1 = .inl v → Ext ρ ρ' → HR G ρ' r.2 H1 → OV ρ' (gO G) v w → (∀ z ∈ locs1, gB G ≤ z.base) → W p l e R s m args below meth c H1 locs1 (cells + mc) (slots + ms) Q (F0 m (pc + 3) ls (w.toList ++ rest))) :
    W p l e R s m args below meth c H locs cells slots Q (F0 m pc ls mst) := by
  intro T hT X
  obtain ⟨v0, st₀, t, T', L, h0, X', hL, e1, e2, ⟨ρ', v, w, q1, q2, q3, q4, q5⟩, st⟩ := hr T hT X
  cases q2
  obtain ⟨t2, a1, b1⟩ := kk ρ' v v0 T'.heap (locs ++ L) q1 q3 (by rw [e1]; exact q4) q5 (fun z hz => by
    rcases List.mem_append.mp hz with h | h
    · exact hl z h
    · exact hL z h) T' rfl X'
  exact ⟨t2, st t2 a1, b1⟩
theorem Mpre_blind {as : List Value} {hs : HS} : FrameBlind (Mpre G as ρ hs) := fun _ _ _ _ h => h
/-- the machine's stack at a call: arguments, the rest -/
theorem args_split {st : List Value} {n : Nat} (hS : SR ρ (gO G) st mst) (hn : n ≤ st.length) : mst = (mst.take n).reverse.reverse ++ mst.drop n ∧ SR ρ (gO G) (st.take n).reverse (mst.take n).reverse ∧ SR ρ (gO G) (st.drop n) (mst.drop n) ∧ ((mst.take n).reverse).length = n := by
  refine ⟨by rw [List.reverse_reverse, List.take_append_drop], (hS.take n).rev, hS.drop n, ?_⟩
  rw [List.length_reverse, List.length_take, hS.len]
  omega
theorem recv_split {st : List Value} {n b : Nat} (hS : SR ρ (gO G) st mst) (hn : n ≤ st.length) (hb : (st.take n).getLast? = some (.ref b)) : ∃ (q : Nat) (As : List Value), ρ b = some q ∧ (mst.take n).reverse = .ref q :: As ∧ mst = As.reverse ++ .ref q :: mst.drop n ∧ As.length + 1 = n := by
  obtain ⟨h1, h2, h3, h4⟩ := args_split (G := G) hS hn
  have hh : (st.take n).reverse.head? = some (.ref b) := by rw [List.head?_reverse]; exact hb
  cases hr : (st.take n).reverse with
  | nil => rw [hr] at hh; cases hh
  | cons v0 tl =>
    rw [hr] at hh h2
    cases hh
    obtain ⟨w, ms', e1, e2, e3⟩ := h2.cons
    obtain ⟨q, hq, rfl⟩ := e2.ref
    refine ⟨q, ms', hq, e1, ?_, by rw [e1] at h4; simpa using h4⟩
    rw [e1] at h1
    simpa using h1
end RUN
