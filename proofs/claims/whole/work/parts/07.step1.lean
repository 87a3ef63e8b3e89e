/-! ONE STEP: the machine does what the pure machine does. -/
def CX (G : Gw) (l : Launch) (k : Nat) (p : Program) (R : Room) (s : State) (m : MethodId) (meth : Method) (c : Code) : Prop :=
  GX G l ∧ GT G s ∧ p.tables.exec = Jvm.exec ∧ c.code = mbytes k ∧ c.maxLocals = mmax k ∧ s.vm.findClass (mown k) = some m.cls ∧ meth.name = (mname k).name ∧ meth.sig.returnType = mret k ∧ meth.locks = false ∧
  c.exceptionTable.toList = tableOf (mhh k) ∧ 10 + mrk k ≤ R.frames ∧ 200 + 40 * mrk k ≤ R.locals ∧ (∀ c, c < 7 → ∀ w ∈ u_ws (cN c) (fT c) (fN c), w ∈ lw_W ∧ goodWord w = true)
section STP
variable {G : Gw} {p : Program} {l : Launch} {e : Env} {R : Room} {s : State} {m : MethodId} {args : Array Value} {below : List Frame} {meth : Method} {c : Code} {H : Heap} {locs : List Loc} {cells slots : Nat} {Q : State → Prop}
variable {k pc k' pc' x y z u : Nat} {L L' st st' ms : List Value} {hs hs' : HS} {ρ : Nat → Option Nat} {ls : Array Slot}
def Kx (G : Gw) (p : Program) (l : Launch) (e : Env) (R : Room) (s : State) (m : MethodId) (args : Array Value) (below : List Frame) (meth : Method) (c : Code) (cells slots : Nat) (Q : State → Prop) (hs hs' : HS) (ρ : Nat → Option Nat) (k pc' : Nat) (L' st' : List Value) : Prop :=
  ∀ (ρ' : Nat → Option Nat) (ls' : Array Slot) (ms' : List Value) (H' : Heap) (locs' : List Loc), Ext ρ ρ' → HR G ρ' hs' H' → LR ρ' (gO G) L' ls' (mmax k) → SR ρ' (gO G) st' ms' → (∀ z ∈ locs', gB G ≤ z.base) →
    W p l e R s m args below meth c H' locs' (cells + (hs'.2.2.1 - hs.2.2.1)) (slots + (hs'.2.2.2 - hs.2.2.2)) Q (F0 m pc' ls' ms')
theorem Kx.same (K : Kx G p l e R s m args below meth c cells slots Q hs hs' ρ k pc' L' st') (e1 : hs'.2.2 = hs.2.2) {H' : Heap} {locs' : List Loc} (hH : HR G ρ hs' H') (hL : LR ρ (gO G) L' ls (mmax k)) (hS : SR ρ (gO G) st' ms) (hl : ∀ z ∈ locs', gB G ≤ z.base) :
    W p l e R s m args below meth c H' locs' cells slots Q (F0 m pc' ls ms) := by
  have h := K ρ ls ms H' locs' Ext.rf hH hL hS hl
  rw [e1, Nat.sub_self, Nat.sub_self] at h
  exact h
theorem nx_inj (h : nx k pc L st hs = some (.inr (.inl (k', pc', L', st', hs')))) : k' = k ∧ pc' = pc ∧ L' = L ∧ st' = st ∧ hs' = hs := by
  unfold nx at h
  cases h
  exact ⟨rfl, rfl, rfl, rfl, rfl⟩


theorem VR.ro {ρ o : Nat → Option Nat} {v w : Value} (r : VR ρ o v w) (h : isRo v = true) : w = .null ∨ ∃ q, w = .ref q := by
  cases v with
  | ref a => obtain ⟨q, -, rfl⟩ := r.ref; exact Or.inr ⟨q, rfl⟩
  | null => exact Or.inl r.null
  | retAddr n =>
    unfold VR at r
    split at r
    · contradiction
    · contradiction
    · obtain ⟨q, rfl⟩ := r; exact Or.inr ⟨q, rfl⟩
    · rw [r]; cases o _ with
      | none => exact Or.inl rfl
      | some q => exact Or.inr ⟨q, rfl⟩
    · next h1 h2 h3 => exact absurd rfl (h3 n)
  | _ => cases h
theorem VR.rr {ρ o : Nat → Option Nat} {v w : Value} (r : VR ρ o v w) (h : isR v = true) : w = .null ∨ ∃ q, w = .ref q := by
  refine r.ro ?_
  unfold isR at h
  split at h <;> first | rfl | cases h

theorem s_iadd (C : CX G l k p R s m meth c) (hm : mcode k pc = some (.iadd, x, y, z, u)) (hd : decode (mbytes k) pc = .ok (.iadd, 1)) (hw : chkR k pc (.iadd, x, y, z, u) = true) (hH : HR G ρ hs H) (hL : LR ρ (gO G) L ls (mmax k)) (hS : SR ρ (gO G) st ms) (hl : ∀ z ∈ locs, gB G ≤ z.base)
    (h : stepI k pc L st hs = some (.inr (.inl (k', pc', L', st', hs')))) (K : Kx G p l e R s m args below meth c cells slots Q hs hs' ρ k' pc' L' st') : W p l e R s m args below meth c H locs cells slots Q (F0 m pc ls ms) := by
  obtain ⟨g, t, hx, hb, hml, hown, hnm, hret, hlk, het, hfr, hlo, hlay⟩ := C
  unfold stepI at h
  rw [hm] at h
  dsimp only at h
  split at h
  · next v0 v1 st =>
    obtain ⟨rfl, rfl, rfl, rfl, rfl⟩ := nx_inj h
    obtain ⟨w0, ms0, rfl, r0, hS0⟩ := hS.cons
    cases r0.int
    obtain ⟨w1, ms1, rfl, r1, hS1⟩ := hS0.cons
    cases r1.int
    exact lv_iadd hx hb hd (K.same rfl hH hL ⟨rfl, hS1⟩ hl)
  · cases h

theorem s_isub (C : CX G l k p R s m meth c) (hm : mcode k pc = some (.isub, x, y, z, u)) (hd : decode (mbytes k) pc = .ok (.isub, 1)) (hw : chkR k pc (.isub, x, y, z, u) = true) (hH : HR G ρ hs H) (hL : LR ρ (gO G) L ls (mmax k)) (hS : SR ρ (gO G) st ms) (hl : ∀ z ∈ locs, gB G ≤ z.base)
    (h : stepI k pc L st hs = some (.inr (.inl (k', pc', L', st', hs')))) (K : Kx G p l e R s m args below meth c cells slots Q hs hs' ρ k' pc' L' st') : W p l e R s m args below meth c H locs cells slots Q (F0 m pc ls ms) := by
  obtain ⟨g, t, hx, hb, hml, hown, hnm, hret, hlk, het, hfr, hlo, hlay⟩ := C
  unfold stepI at h
  rw [hm] at h
  dsimp only at h
  split at h
  · next v0 v1 st =>
    obtain ⟨rfl, rfl, rfl, rfl, rfl⟩ := nx_inj h
    obtain ⟨w0, ms0, rfl, r0, hS0⟩ := hS.cons
    cases r0.int
    obtain ⟨w1, ms1, rfl, r1, hS1⟩ := hS0.cons
    cases r1.int
    exact lv_isub hx hb hd (K.same rfl hH hL ⟨rfl, hS1⟩ hl)
  · cases h

theorem s_imul (C : CX G l k p R s m meth c) (hm : mcode k pc = some (.imul, x, y, z, u)) (hd : decode (mbytes k) pc = .ok (.imul, 1)) (hw : chkR k pc (.imul, x, y, z, u) = true) (hH : HR G ρ hs H) (hL : LR ρ (gO G) L ls (mmax k)) (hS : SR ρ (gO G) st ms) (hl : ∀ z ∈ locs, gB G ≤ z.base)
    (h : stepI k pc L st hs = some (.inr (.inl (k', pc', L', st', hs')))) (K : Kx G p l e R s m args below meth c cells slots Q hs hs' ρ k' pc' L' st') : W p l e R s m args below meth c H locs cells slots Q (F0 m pc ls ms) := by
  obtain ⟨g, t, hx, hb, hml, hown, hnm, hret, hlk, het, hfr, hlo, hlay⟩ := C
  unfold stepI at h
  rw [hm] at h
  dsimp only at h
  split at h
  · next v0 v1 st =>
    obtain ⟨rfl, rfl, rfl, rfl, rfl⟩ := nx_inj h
    obtain ⟨w0, ms0, rfl, r0, hS0⟩ := hS.cons
    cases r0.int
    obtain ⟨w1, ms1, rfl, r1, hS1⟩ := hS0.cons
    cases r1.int
    exact lv_imul hx hb hd (K.same rfl hH hL ⟨rfl, hS1⟩ hl)
  · cases h

theorem s_ineg (C : CX G l k p R s m meth c) (hm : mcode k pc = some (.ineg, x, y, z, u)) (hd : decode (mbytes k) pc = .ok (.ineg, 1)) (hw : chkR k pc (.ineg, x, y, z, u) = true) (hH : HR G ρ hs H) (hL : LR ρ (gO G) L ls (mmax k)) (hS : SR ρ (gO G) st ms) (hl : ∀ z ∈ locs, gB G ≤ z.base)
    (h : stepI k pc L st hs = some (.inr (.inl (k', pc', L', st', hs')))) (K : Kx G p l e R s m args below meth c cells slots Q hs hs' ρ k' pc' L' st') : W p l e R s m args below meth c H locs cells slots Q (F0 m pc ls ms) := by
  obtain ⟨g, t, hx, hb, hml, hown, hnm, hret, hlk, het, hfr, hlo, hlay⟩ := C
  unfold stepI at h
  rw [hm] at h
  dsimp only at h
  split at h
  · next v0 st =>
    obtain ⟨rfl, rfl, rfl, rfl, rfl⟩ := nx_inj h
    obtain ⟨w0, ms0, rfl, r0, hS0⟩ := hS.cons
    cases r0.int
    exact lv_ineg hx hb hd (K.same rfl hH hL ⟨rfl, hS0⟩ hl)
  · cases h

theorem s_iand (C : CX G l k p R s m meth c) (hm : mcode k pc = some (.iand, x, y, z, u)) (hd : decode (mbytes k) pc = .ok (.iand, 1)) (hw : chkR k pc (.iand, x, y, z, u) = true) (hH : HR G ρ hs H) (hL : LR ρ (gO G) L ls (mmax k)) (hS : SR ρ (gO G) st ms) (hl : ∀ z ∈ locs, gB G ≤ z.base)
    (h : stepI k pc L st hs = some (.inr (.inl (k', pc', L', st', hs')))) (K : Kx G p l e R s m args below meth c cells slots Q hs hs' ρ k' pc' L' st') : W p l e R s m args below meth c H locs cells slots Q (F0 m pc ls ms) := by
  obtain ⟨g, t, hx, hb, hml, hown, hnm, hret, hlk, het, hfr, hlo, hlay⟩ := C
  unfold stepI at h
  rw [hm] at h
  dsimp only at h
  split at h
  · next v0 v1 st =>
    obtain ⟨rfl, rfl, rfl, rfl, rfl⟩ := nx_inj h
    obtain ⟨w0, ms0, rfl, r0, hS0⟩ := hS.cons
    cases r0.int
    obtain ⟨w1, ms1, rfl, r1, hS1⟩ := hS0.cons
    cases r1.int
    exact lv_iand hx hb hd (K.same rfl hH hL ⟨rfl, hS1⟩ hl)
  · cases h

theorem s_ixor (C : CX G l k p R s m meth c) (hm : mcode k pc = some (.ixor, x, y, z, u)) (hd : decode (mbytes k) pc = .ok (.ixor, 1)) (hw : chkR k pc (.ixor, x, y, z, u) = true) (hH : HR G ρ hs H) (hL : LR ρ (gO G) L ls (mmax k)) (hS : SR ρ (gO G) st ms) (hl : ∀ z ∈ locs, gB G ≤ z.base)
    (h : stepI k pc L st hs = some (.inr (.inl (k', pc', L', st', hs')))) (K : Kx G p l e R s m args below meth c cells slots Q hs hs' ρ k' pc' L' st') : W p l e R s m args below meth c H locs cells slots Q (F0 m pc ls ms) := by
  obtain ⟨g, t, hx, hb, hml, hown, hnm, hret, hlk, het, hfr, hlo, hlay⟩ := C
  unfold stepI at h
  rw [hm] at h
  dsimp only at h
  split at h
  · next v0 v1 st =>
    obtain ⟨rfl, rfl, rfl, rfl, rfl⟩ := nx_inj h
    obtain ⟨w0, ms0, rfl, r0, hS0⟩ := hS.cons
    cases r0.int
    obtain ⟨w1, ms1, rfl, r1, hS1⟩ := hS0.cons
    cases r1.int
    exact lv_ixor hx hb hd (K.same rfl hH hL ⟨rfl, hS1⟩ hl)
  · cases h

theorem s_ishl (C : CX G l k p R s m meth c) (hm : mcode k pc = some (.ishl, x, y, z, u)) (hd : decode (mbytes k) pc = .ok (.ishl, 1)) (hw : chkR k pc (.ishl, x, y, z, u) = true) (hH : HR G ρ hs H) (hL : LR ρ (gO G) L ls (mmax k)) (hS : SR ρ (gO G) st ms) (hl : ∀ z ∈ locs, gB G ≤ z.base)
    (h : stepI k pc L st hs = some (.inr (.inl (k', pc', L', st', hs')))) (K : Kx G p l e R s m args below meth c cells slots Q hs hs' ρ k' pc' L' st') : W p l e R s m args below meth c H locs cells slots Q (F0 m pc ls ms) := by
  obtain ⟨g, t, hx, hb, hml, hown, hnm, hret, hlk, het, hfr, hlo, hlay⟩ := C
  unfold stepI at h
  rw [hm] at h
  dsimp only at h
  split at h
  · next v0 v1 st =>
    obtain ⟨rfl, rfl, rfl, rfl, rfl⟩ := nx_inj h
    obtain ⟨w0, ms0, rfl, r0, hS0⟩ := hS.cons
    cases r0.int
    obtain ⟨w1, ms1, rfl, r1, hS1⟩ := hS0.cons
    cases r1.int
    exact lv_ishl hx hb hd (K.same rfl hH hL ⟨rfl, hS1⟩ hl)
  · cases h

theorem s_ishr (C : CX G l k p R s m meth c) (hm : mcode k pc = some (.ishr, x, y, z, u)) (hd : decode (mbytes k) pc = .ok (.ishr, 1)) (hw : chkR k pc (.ishr, x, y, z, u) = true) (hH : HR G ρ hs H) (hL : LR ρ (gO G) L ls (mmax k)) (hS : SR ρ (gO G) st ms) (hl : ∀ z ∈ locs, gB G ≤ z.base)
    (h : stepI k pc L st hs = some (.inr (.inl (k', pc', L', st', hs')))) (K : Kx G p l e R s m args below meth c cells slots Q hs hs' ρ k' pc' L' st') : W p l e R s m args below meth c H locs cells slots Q (F0 m pc ls ms) := by
  obtain ⟨g, t, hx, hb, hml, hown, hnm, hret, hlk, het, hfr, hlo, hlay⟩ := C
  unfold stepI at h
  rw [hm] at h
  dsimp only at h
  split at h
  · next v0 v1 st =>
    obtain ⟨rfl, rfl, rfl, rfl, rfl⟩ := nx_inj h
    obtain ⟨w0, ms0, rfl, r0, hS0⟩ := hS.cons
    cases r0.int
    obtain ⟨w1, ms1, rfl, r1, hS1⟩ := hS0.cons
    cases r1.int
    exact lv_ishr hx hb hd (K.same rfl hH hL ⟨rfl, hS1⟩ hl)
  · cases h

theorem s_ladd (C : CX G l k p R s m meth c) (hm : mcode k pc = some (.ladd, x, y, z, u)) (hd : decode (mbytes k) pc = .ok (.ladd, 1)) (hw : chkR k pc (.ladd, x, y, z, u) = true) (hH : HR G ρ hs H) (hL : LR ρ (gO G) L ls (mmax k)) (hS : SR ρ (gO G) st ms) (hl : ∀ z ∈ locs, gB G ≤ z.base)
    (h : stepI k pc L st hs = some (.inr (.inl (k', pc', L', st', hs')))) (K : Kx G p l e R s m args below meth c cells slots Q hs hs' ρ k' pc' L' st') : W p l e R s m args below meth c H locs cells slots Q (F0 m pc ls ms) := by
  obtain ⟨g, t, hx, hb, hml, hown, hnm, hret, hlk, het, hfr, hlo, hlay⟩ := C
  unfold stepI at h
  rw [hm] at h
  dsimp only at h
  split at h
  · next v0 v1 st =>
    obtain ⟨rfl, rfl, rfl, rfl, rfl⟩ := nx_inj h
    obtain ⟨w0, ms0, rfl, r0, hS0⟩ := hS.cons
    cases r0.long
    obtain ⟨w1, ms1, rfl, r1, hS1⟩ := hS0.cons
    cases r1.long
    exact lv_ladd hx hb hd (K.same rfl hH hL ⟨rfl, hS1⟩ hl)
  · cases h

theorem s_i2l (C : CX G l k p R s m meth c) (hm : mcode k pc = some (.i2l, x, y, z, u)) (hd : decode (mbytes k) pc = .ok (.i2l, 1)) (hw : chkR k pc (.i2l, x, y, z, u) = true) (hH : HR G ρ hs H) (hL : LR ρ (gO G) L ls (mmax k)) (hS : SR ρ (gO G) st ms) (hl : ∀ z ∈ locs, gB G ≤ z.base)
    (h : stepI k pc L st hs = some (.inr (.inl (k', pc', L', st', hs')))) (K : Kx G p l e R s m args below meth c cells slots Q hs hs' ρ k' pc' L' st') : W p l e R s m args below meth c H locs cells slots Q (F0 m pc ls ms) := by
  obtain ⟨g, t, hx, hb, hml, hown, hnm, hret, hlk, het, hfr, hlo, hlay⟩ := C
  unfold stepI at h
  rw [hm] at h
  dsimp only at h
  split at h
  · next v0 st =>
    obtain ⟨rfl, rfl, rfl, rfl, rfl⟩ := nx_inj h
    obtain ⟨w0, ms0, rfl, r0, hS0⟩ := hS.cons
    cases r0.int
    exact lv_i2l hx hb hd rfl (K.same rfl hH hL ⟨rfl, hS0⟩ hl)
  · cases h

theorem s_i2d (C : CX G l k p R s m meth c) (hm : mcode k pc = some (.i2d, x, y, z, u)) (hd : decode (mbytes k) pc = .ok (.i2d, 1)) (hw : chkR k pc (.i2d, x, y, z, u) = true) (hH : HR G ρ hs H) (hL : LR ρ (gO G) L ls (mmax k)) (hS : SR ρ (gO G) st ms) (hl : ∀ z ∈ locs, gB G ≤ z.base)
    (h : stepI k pc L st hs = some (.inr (.inl (k', pc', L', st', hs')))) (K : Kx G p l e R s m args below meth c cells slots Q hs hs' ρ k' pc' L' st') : W p l e R s m args below meth c H locs cells slots Q (F0 m pc ls ms) := by
  obtain ⟨g, t, hx, hb, hml, hown, hnm, hret, hlk, het, hfr, hlo, hlay⟩ := C
  unfold stepI at h
  rw [hm] at h
  dsimp only at h
  split at h
  · next v0 st =>
    obtain ⟨rfl, rfl, rfl, rfl, rfl⟩ := nx_inj h
    obtain ⟨w0, ms0, rfl, r0, hS0⟩ := hS.cons
    cases r0.int
    exact lv_i2d hx hb hd (K.same rfl hH hL ⟨rfl, hS0⟩ hl)
  · cases h

theorem s_l2d (C : CX G l k p R s m meth c) (hm : mcode k pc = some (.l2d, x, y, z, u)) (hd : decode (mbytes k) pc = .ok (.l2d, 1)) (hw : chkR k pc (.l2d, x, y, z, u) = true) (hH : HR G ρ hs H) (hL : LR ρ (gO G) L ls (mmax k)) (hS : SR ρ (gO G) st ms) (hl : ∀ z ∈ locs, gB G ≤ z.base)
    (h : stepI k pc L st hs = some (.inr (.inl (k', pc', L', st', hs')))) (K : Kx G p l e R s m args below meth c cells slots Q hs hs' ρ k' pc' L' st') : W p l e R s m args below meth c H locs cells slots Q (F0 m pc ls ms) := by
  obtain ⟨g, t, hx, hb, hml, hown, hnm, hret, hlk, het, hfr, hlo, hlay⟩ := C
  unfold stepI at h
  rw [hm] at h
  dsimp only at h
  split at h
  · next v0 st =>
    obtain ⟨rfl, rfl, rfl, rfl, rfl⟩ := nx_inj h
    obtain ⟨w0, ms0, rfl, r0, hS0⟩ := hS.cons
    cases r0.long
    exact lv_l2d hx hb hd (K.same rfl hH hL ⟨rfl, hS0⟩ hl)
  · cases h

theorem s_i2f (C : CX G l k p R s m meth c) (hm : mcode k pc = some (.i2f, x, y, z, u)) (hd : decode (mbytes k) pc = .ok (.i2f, 1)) (hw : chkR k pc (.i2f, x, y, z, u) = true) (hH : HR G ρ hs H) (hL : LR ρ (gO G) L ls (mmax k)) (hS : SR ρ (gO G) st ms) (hl : ∀ z ∈ locs, gB G ≤ z.base)
    (h : stepI k pc L st hs = some (.inr (.inl (k', pc', L', st', hs')))) (K : Kx G p l e R s m args below meth c cells slots Q hs hs' ρ k' pc' L' st') : W p l e R s m args below meth c H locs cells slots Q (F0 m pc ls ms) := by
  obtain ⟨g, t, hx, hb, hml, hown, hnm, hret, hlk, het, hfr, hlo, hlay⟩ := C
  unfold stepI at h
  rw [hm] at h
  dsimp only at h
  split at h
  · next v0 st =>
    obtain ⟨rfl, rfl, rfl, rfl, rfl⟩ := nx_inj h
    obtain ⟨w0, ms0, rfl, r0, hS0⟩ := hS.cons
    cases r0.int
    exact lv_i2f hx hb hd (K.same rfl hH hL ⟨rfl, hS0⟩ hl)
  · cases h

theorem s_fdiv (C : CX G l k p R s m meth c) (hm : mcode k pc = some (.fdiv, x, y, z, u)) (hd : decode (mbytes k) pc = .ok (.fdiv, 1)) (hw : chkR k pc (.fdiv, x, y, z, u) = true) (hH : HR G ρ hs H) (hL : LR ρ (gO G) L ls (mmax k)) (hS : SR ρ (gO G) st ms) (hl : ∀ z ∈ locs, gB G ≤ z.base)
    (h : stepI k pc L st hs = some (.inr (.inl (k', pc', L', st', hs')))) (K : Kx G p l e R s m args below meth c cells slots Q hs hs' ρ k' pc' L' st') : W p l e R s m args below meth c H locs cells slots Q (F0 m pc ls ms) := by
  obtain ⟨g, t, hx, hb, hml, hown, hnm, hret, hlk, het, hfr, hlo, hlay⟩ := C
  unfold stepI at h
  rw [hm] at h
  dsimp only at h
  split at h
  · next b a st =>
    split at h
    · next hn =>
      obtain ⟨rfl, rfl, rfl, rfl, rfl⟩ := nx_inj h
      obtain ⟨w0, ms0, rfl, r0, hS0⟩ := hS.cons
      obtain ⟨w1, ms1, rfl, r1, hS1⟩ := hS0.cons
      cases r0.float
      cases r1.float
      exact lv_fdiv hx hb hd hn (K.same rfl hH hL ⟨rfl, hS1⟩ hl)
    · cases h
  · cases h

theorem s_ddiv (C : CX G l k p R s m meth c) (hm : mcode k pc = some (.ddiv, x, y, z, u)) (hd : decode (mbytes k) pc = .ok (.ddiv, 1)) (hw : chkR k pc (.ddiv, x, y, z, u) = true) (hH : HR G ρ hs H) (hL : LR ρ (gO G) L ls (mmax k)) (hS : SR ρ (gO G) st ms) (hl : ∀ z ∈ locs, gB G ≤ z.base)
    (h : stepI k pc L st hs = some (.inr (.inl (k', pc', L', st', hs')))) (K : Kx G p l e R s m args below meth c cells slots Q hs hs' ρ k' pc' L' st') : W p l e R s m args below meth c H locs cells slots Q (F0 m pc ls ms) := by
  obtain ⟨g, t, hx, hb, hml, hown, hnm, hret, hlk, het, hfr, hlo, hlay⟩ := C
  unfold stepI at h
  rw [hm] at h
  dsimp only at h
  split at h
  · next b a st =>
    split at h
    · next hn =>
      obtain ⟨rfl, rfl, rfl, rfl, rfl⟩ := nx_inj h
      obtain ⟨w0, ms0, rfl, r0, hS0⟩ := hS.cons
      obtain ⟨w1, ms1, rfl, r1, hS1⟩ := hS0.cons
      cases r0.double
      cases r1.double
      exact lv_ddiv hx hb hd hn (K.same rfl hH hL ⟨rfl, hS1⟩ hl)
    · cases h
  · cases h

theorem s_f2d (C : CX G l k p R s m meth c) (hm : mcode k pc = some (.f2d, x, y, z, u)) (hd : decode (mbytes k) pc = .ok (.f2d, 1)) (hw : chkR k pc (.f2d, x, y, z, u) = true) (hH : HR G ρ hs H) (hL : LR ρ (gO G) L ls (mmax k)) (hS : SR ρ (gO G) st ms) (hl : ∀ z ∈ locs, gB G ≤ z.base)
    (h : stepI k pc L st hs = some (.inr (.inl (k', pc', L', st', hs')))) (K : Kx G p l e R s m args below meth c cells slots Q hs hs' ρ k' pc' L' st') : W p l e R s m args below meth c H locs cells slots Q (F0 m pc ls ms) := by
  obtain ⟨g, t, hx, hb, hml, hown, hnm, hret, hlk, het, hfr, hlo, hlay⟩ := C
  unfold stepI at h
  rw [hm] at h
  dsimp only at h
  split at h
  · next a st =>
    split at h
    · next hn =>
      obtain ⟨rfl, rfl, rfl, rfl, rfl⟩ := nx_inj h
      obtain ⟨w0, ms0, rfl, r0, hS0⟩ := hS.cons
      cases r0.float
      exact lv_f2d hx hb hd hn (K.same rfl hH hL ⟨rfl, hS0⟩ hl)
    · cases h
  · cases h

theorem s_lcmp (C : CX G l k p R s m meth c) (hm : mcode k pc = some (.lcmp, x, y, z, u)) (hd : decode (mbytes k) pc = .ok (.lcmp, 1)) (hw : chkR k pc (.lcmp, x, y, z, u) = true) (hH : HR G ρ hs H) (hL : LR ρ (gO G) L ls (mmax k)) (hS : SR ρ (gO G) st ms) (hl : ∀ z ∈ locs, gB G ≤ z.base)
    (h : stepI k pc L st hs = some (.inr (.inl (k', pc', L', st', hs')))) (K : Kx G p l e R s m args below meth c cells slots Q hs hs' ρ k' pc' L' st') : W p l e R s m args below meth c H locs cells slots Q (F0 m pc ls ms) := by
  obtain ⟨g, t, hx, hb, hml, hown, hnm, hret, hlk, het, hfr, hlo, hlay⟩ := C
  unfold stepI at h
  rw [hm] at h
  dsimp only at h
  split at h
  · next v0 v1 st =>
    obtain ⟨rfl, rfl, rfl, rfl, rfl⟩ := nx_inj h
    obtain ⟨w0, ms0, rfl, r0, hS0⟩ := hS.cons
    cases r0.long
    obtain ⟨w1, ms1, rfl, r1, hS1⟩ := hS0.cons
    cases r1.long
    exact W.lcmp hx hb hd (K.same rfl hH hL ⟨rfl, hS1⟩ hl)
  · cases h

theorem s_fcmp {op : CmpOp} (C : CX G l k p R s m meth c) (hm : mcode k pc = some (.fcmp op, x, y, z, u)) (hd : decode (mbytes k) pc = .ok (.fcmp op, 1)) (hw : chkR k pc (.fcmp op, x, y, z, u) = true) (hH : HR G ρ hs H) (hL : LR ρ (gO G) L ls (mmax k)) (hS : SR ρ (gO G) st ms) (hl : ∀ z ∈ locs, gB G ≤ z.base)
    (h : stepI k pc L st hs = some (.inr (.inl (k', pc', L', st', hs')))) (K : Kx G p l e R s m args below meth c cells slots Q hs hs' ρ k' pc' L' st') : W p l e R s m args below meth c H locs cells slots Q (F0 m pc ls ms) := by
  obtain ⟨g, t, hx, hb, hml, hown, hnm, hret, hlk, het, hfr, hlo, hlay⟩ := C
  unfold stepI at h
  rw [hm] at h
  dsimp only at h
  split at h
  · next v0 v1 st =>
    obtain ⟨rfl, rfl, rfl, rfl, rfl⟩ := nx_inj h
    obtain ⟨w0, ms0, rfl, r0, hS0⟩ := hS.cons
    cases r0.float
    obtain ⟨w1, ms1, rfl, r1, hS1⟩ := hS0.cons
    cases r1.float
    exact lv_fcmp hx hb hd (K.same rfl hH hL ⟨rfl, hS1⟩ hl)
  · cases h

theorem s_dcmp {op : CmpOp} (C : CX G l k p R s m meth c) (hm : mcode k pc = some (.dcmp op, x, y, z, u)) (hd : decode (mbytes k) pc = .ok (.dcmp op, 1)) (hw : chkR k pc (.dcmp op, x, y, z, u) = true) (hH : HR G ρ hs H) (hL : LR ρ (gO G) L ls (mmax k)) (hS : SR ρ (gO G) st ms) (hl : ∀ z ∈ locs, gB G ≤ z.base)
    (h : stepI k pc L st hs = some (.inr (.inl (k', pc', L', st', hs')))) (K : Kx G p l e R s m args below meth c cells slots Q hs hs' ρ k' pc' L' st') : W p l e R s m args below meth c H locs cells slots Q (F0 m pc ls ms) := by
  obtain ⟨g, t, hx, hb, hml, hown, hnm, hret, hlk, het, hfr, hlo, hlay⟩ := C
  unfold stepI at h
  rw [hm] at h
  dsimp only at h
  split at h
  · next v0 v1 st =>
    obtain ⟨rfl, rfl, rfl, rfl, rfl⟩ := nx_inj h
    obtain ⟨w0, ms0, rfl, r0, hS0⟩ := hS.cons
    cases r0.double
    obtain ⟨w1, ms1, rfl, r1, hS1⟩ := hS0.cons
    cases r1.double
    exact lv_dcmp hx hb hd (K.same rfl hH hL ⟨rfl, hS1⟩ hl)
  · cases h

theorem s_i2c (C : CX G l k p R s m meth c) (hm : mcode k pc = some (.i2c, x, y, z, u)) (hd : decode (mbytes k) pc = .ok (.i2c, 1)) (hw : chkR k pc (.i2c, x, y, z, u) = true) (hH : HR G ρ hs H) (hL : LR ρ (gO G) L ls (mmax k)) (hS : SR ρ (gO G) st ms) (hl : ∀ z ∈ locs, gB G ≤ z.base)
    (h : stepI k pc L st hs = some (.inr (.inl (k', pc', L', st', hs')))) (K : Kx G p l e R s m args below meth c cells slots Q hs hs' ρ k' pc' L' st') : W p l e R s m args below meth c H locs cells slots Q (F0 m pc ls ms) := by
  obtain ⟨g, t, hx, hb, hml, hown, hnm, hret, hlk, het, hfr, hlo, hlay⟩ := C
  unfold stepI at h
  rw [hm] at h
  dsimp only at h
  split at h
  · next v0 st =>
    obtain ⟨rfl, rfl, rfl, rfl, rfl⟩ := nx_inj h
    obtain ⟨w0, ms0, rfl, r0, hS0⟩ := hS.cons
    cases r0.int
    exact lv_i2c hx hb hd rfl (K.same rfl hH hL ⟨rfl, hS0⟩ hl)
  · cases h

theorem s_i2b (C : CX G l k p R s m meth c) (hm : mcode k pc = some (.i2b, x, y, z, u)) (hd : decode (mbytes k) pc = .ok (.i2b, 1)) (hw : chkR k pc (.i2b, x, y, z, u) = true) (hH : HR G ρ hs H) (hL : LR ρ (gO G) L ls (mmax k)) (hS : SR ρ (gO G) st ms) (hl : ∀ z ∈ locs, gB G ≤ z.base)
    (h : stepI k pc L st hs = some (.inr (.inl (k', pc', L', st', hs')))) (K : Kx G p l e R s m args below meth c cells slots Q hs hs' ρ k' pc' L' st') : W p l e R s m args below meth c H locs cells slots Q (F0 m pc ls ms) := by
  obtain ⟨g, t, hx, hb, hml, hown, hnm, hret, hlk, het, hfr, hlo, hlay⟩ := C
  unfold stepI at h
  rw [hm] at h
  dsimp only at h
  split at h
  · next v0 st =>
    obtain ⟨rfl, rfl, rfl, rfl, rfl⟩ := nx_inj h
    obtain ⟨w0, ms0, rfl, r0, hS0⟩ := hS.cons
    cases r0.int
    exact lv_i2b hx hb hd rfl (K.same rfl hH hL ⟨rfl, hS0⟩ hl)
  · cases h

theorem s_idiv (C : CX G l k p R s m meth c) (hm : mcode k pc = some (.idiv, x, y, z, u)) (hd : decode (mbytes k) pc = .ok (.idiv, 1)) (hw : chkR k pc (.idiv, x, y, z, u) = true) (hH : HR G ρ hs H) (hL : LR ρ (gO G) L ls (mmax k)) (hS : SR ρ (gO G) st ms) (hl : ∀ z ∈ locs, gB G ≤ z.base)
    (h : stepI k pc L st hs = some (.inr (.inl (k', pc', L', st', hs')))) (K : Kx G p l e R s m args below meth c cells slots Q hs hs' ρ k' pc' L' st') : W p l e R s m args below meth c H locs cells slots Q (F0 m pc ls ms) := by
  obtain ⟨g, t, hx, hb, hml, hown, hnm, hret, hlk, het, hfr, hlo, hlay⟩ := C
  unfold stepI at h
  rw [hm] at h
  dsimp only at h
  split at h
  · next v0 v1 st =>
    split at h
    · cases h
    · next hne =>
      obtain ⟨rfl, rfl, rfl, rfl, rfl⟩ := nx_inj h
      obtain ⟨w0, ms0, rfl, r0, hS0⟩ := hS.cons
      cases r0.int
      obtain ⟨w1, ms1, rfl, r1, hS1⟩ := hS0.cons
      cases r1.int
      exact lv_idiv hx hb hd hne (K.same rfl hH hL ⟨rfl, hS1⟩ hl)
  · cases h

theorem s_irem (C : CX G l k p R s m meth c) (hm : mcode k pc = some (.irem, x, y, z, u)) (hd : decode (mbytes k) pc = .ok (.irem, 1)) (hw : chkR k pc (.irem, x, y, z, u) = true) (hH : HR G ρ hs H) (hL : LR ρ (gO G) L ls (mmax k)) (hS : SR ρ (gO G) st ms) (hl : ∀ z ∈ locs, gB G ≤ z.base)
    (h : stepI k pc L st hs = some (.inr (.inl (k', pc', L', st', hs')))) (K : Kx G p l e R s m args below meth c cells slots Q hs hs' ρ k' pc' L' st') : W p l e R s m args below meth c H locs cells slots Q (F0 m pc ls ms) := by
  obtain ⟨g, t, hx, hb, hml, hown, hnm, hret, hlk, het, hfr, hlo, hlay⟩ := C
  unfold stepI at h
  rw [hm] at h
  dsimp only at h
  split at h
  · next v0 v1 st =>
    split at h
    · cases h
    · next hne =>
      obtain ⟨rfl, rfl, rfl, rfl, rfl⟩ := nx_inj h
      obtain ⟨w0, ms0, rfl, r0, hS0⟩ := hS.cons
      cases r0.int
      obtain ⟨w1, ms1, rfl, r1, hS1⟩ := hS0.cons
      cases r1.int
      exact lv_irem hx hb hd hne (K.same rfl hH hL ⟨rfl, hS1⟩ hl)
  · cases h

theorem s_iconst {n : Int} (C : CX G l k p R s m meth c) (hm : mcode k pc = some (.iconst n, x, y, z, u)) (hd : decode (mbytes k) pc = .ok (.iconst n, 1)) (hw : chkR k pc (.iconst n, x, y, z, u) = true) (hH : HR G ρ hs H) (hL : LR ρ (gO G) L ls (mmax k)) (hS : SR ρ (gO G) st ms) (hl : ∀ z ∈ locs, gB G ≤ z.base)
    (h : stepI k pc L st hs = some (.inr (.inl (k', pc', L', st', hs')))) (K : Kx G p l e R s m args below meth c cells slots Q hs hs' ρ k' pc' L' st') : W p l e R s m args below meth c H locs cells slots Q (F0 m pc ls ms) := by
  obtain ⟨g, t, hx, hb, hml, hown, hnm, hret, hlk, het, hfr, hlo, hlay⟩ := C
  unfold stepI at h
  rw [hm] at h
  dsimp only at h
  obtain ⟨rfl, rfl, rfl, rfl, rfl⟩ := nx_inj h
  exact lv_iconst hx hb hd rfl (K.same rfl hH hL ⟨rfl, hS⟩ hl)

theorem s_bipush {n : Int} (C : CX G l k p R s m meth c) (hm : mcode k pc = some (.bipush n, x, y, z, u)) (hd : decode (mbytes k) pc = .ok (.bipush n, 2)) (hw : chkR k pc (.bipush n, x, y, z, u) = true) (hH : HR G ρ hs H) (hL : LR ρ (gO G) L ls (mmax k)) (hS : SR ρ (gO G) st ms) (hl : ∀ z ∈ locs, gB G ≤ z.base)
    (h : stepI k pc L st hs = some (.inr (.inl (k', pc', L', st', hs')))) (K : Kx G p l e R s m args below meth c cells slots Q hs hs' ρ k' pc' L' st') : W p l e R s m args below meth c H locs cells slots Q (F0 m pc ls ms) := by
  obtain ⟨g, t, hx, hb, hml, hown, hnm, hret, hlk, het, hfr, hlo, hlay⟩ := C
  unfold stepI at h
  rw [hm] at h
  dsimp only at h
  obtain ⟨rfl, rfl, rfl, rfl, rfl⟩ := nx_inj h
  exact lv_bipush hx hb hd rfl (K.same rfl hH hL ⟨rfl, hS⟩ hl)

theorem s_sipush {n : Int} (C : CX G l k p R s m meth c) (hm : mcode k pc = some (.sipush n, x, y, z, u)) (hd : decode (mbytes k) pc = .ok (.sipush n, 3)) (hw : chkR k pc (.sipush n, x, y, z, u) = true) (hH : HR G ρ hs H) (hL : LR ρ (gO G) L ls (mmax k)) (hS : SR ρ (gO G) st ms) (hl : ∀ z ∈ locs, gB G ≤ z.base)
    (h : stepI k pc L st hs = some (.inr (.inl (k', pc', L', st', hs')))) (K : Kx G p l e R s m args below meth c cells slots Q hs hs' ρ k' pc' L' st') : W p l e R s m args below meth c H locs cells slots Q (F0 m pc ls ms) := by
  obtain ⟨g, t, hx, hb, hml, hown, hnm, hret, hlk, het, hfr, hlo, hlay⟩ := C
  unfold stepI at h
  rw [hm] at h
  dsimp only at h
  obtain ⟨rfl, rfl, rfl, rfl, rfl⟩ := nx_inj h
  exact lv_sipush hx hb hd rfl (K.same rfl hH hL ⟨rfl, hS⟩ hl)

theorem s_lconst {n : Fin 2} (C : CX G l k p R s m meth c) (hm : mcode k pc = some (.lconst n, x, y, z, u)) (hd : decode (mbytes k) pc = .ok (.lconst n, 1)) (hw : chkR k pc (.lconst n, x, y, z, u) = true) (hH : HR G ρ hs H) (hL : LR ρ (gO G) L ls (mmax k)) (hS : SR ρ (gO G) st ms) (hl : ∀ z ∈ locs, gB G ≤ z.base)
    (h : stepI k pc L st hs = some (.inr (.inl (k', pc', L', st', hs')))) (K : Kx G p l e R s m args below meth c cells slots Q hs hs' ρ k' pc' L' st') : W p l e R s m args below meth c H locs cells slots Q (F0 m pc ls ms) := by
  obtain ⟨g, t, hx, hb, hml, hown, hnm, hret, hlk, het, hfr, hlo, hlay⟩ := C
  unfold stepI at h
  rw [hm] at h
  dsimp only at h
  obtain ⟨rfl, rfl, rfl, rfl, rfl⟩ := nx_inj h
  exact lv_lconst hx hb hd rfl (K.same rfl hH hL ⟨rfl, hS⟩ hl)

theorem s_null (C : CX G l k p R s m meth c) (hm : mcode k pc = some (.aconst_null, x, y, z, u)) (hd : decode (mbytes k) pc = .ok (.aconst_null, 1)) (hw : chkR k pc (.aconst_null, x, y, z, u) = true) (hH : HR G ρ hs H) (hL : LR ρ (gO G) L ls (mmax k)) (hS : SR ρ (gO G) st ms) (hl : ∀ z ∈ locs, gB G ≤ z.base)
    (h : stepI k pc L st hs = some (.inr (.inl (k', pc', L', st', hs')))) (K : Kx G p l e R s m args below meth c cells slots Q hs hs' ρ k' pc' L' st') : W p l e R s m args below meth c H locs cells slots Q (F0 m pc ls ms) := by
  obtain ⟨g, t, hx, hb, hml, hown, hnm, hret, hlk, het, hfr, hlo, hlay⟩ := C
  unfold stepI at h
  rw [hm] at h
  dsimp only at h
  obtain ⟨rfl, rfl, rfl, rfl, rfl⟩ := nx_inj h
  exact lv_null hx hb hd (K.same rfl hH hL ⟨rfl, hS⟩ hl)

theorem s_fconst {n : Fin 3} (C : CX G l k p R s m meth c) (hm : mcode k pc = some (.fconst n, x, y, z, u)) (hd : decode (mbytes k) pc = .ok (.fconst n, 1)) (hw : chkR k pc (.fconst n, x, y, z, u) = true) (hH : HR G ρ hs H) (hL : LR ρ (gO G) L ls (mmax k)) (hS : SR ρ (gO G) st ms) (hl : ∀ z ∈ locs, gB G ≤ z.base)
    (h : stepI k pc L st hs = some (.inr (.inl (k', pc', L', st', hs')))) (K : Kx G p l e R s m args below meth c cells slots Q hs hs' ρ k' pc' L' st') : W p l e R s m args below meth c H locs cells slots Q (F0 m pc ls ms) := by
  obtain ⟨g, t, hx, hb, hml, hown, hnm, hret, hlk, het, hfr, hlo, hlay⟩ := C
  unfold stepI at h
  rw [hm] at h
  dsimp only at h
  split at h
  · next hn =>
    subst hn
    obtain ⟨rfl, rfl, rfl, rfl, rfl⟩ := nx_inj h
    exact lv_fconst0 hx hb hd (K.same rfl hH hL ⟨rfl, hS⟩ hl)
  · cases h

theorem s_dconst {n : Fin 2} (C : CX G l k p R s m meth c) (hm : mcode k pc = some (.dconst n, x, y, z, u)) (hd : decode (mbytes k) pc = .ok (.dconst n, 1)) (hw : chkR k pc (.dconst n, x, y, z, u) = true) (hH : HR G ρ hs H) (hL : LR ρ (gO G) L ls (mmax k)) (hS : SR ρ (gO G) st ms) (hl : ∀ z ∈ locs, gB G ≤ z.base)
    (h : stepI k pc L st hs = some (.inr (.inl (k', pc', L', st', hs')))) (K : Kx G p l e R s m args below meth c cells slots Q hs hs' ρ k' pc' L' st') : W p l e R s m args below meth c H locs cells slots Q (F0 m pc ls ms) := by
  obtain ⟨g, t, hx, hb, hml, hown, hnm, hret, hlk, het, hfr, hlo, hlay⟩ := C
  unfold stepI at h
  rw [hm] at h
  dsimp only at h
  split at h
  · next hn =>
    subst hn
    obtain ⟨rfl, rfl, rfl, rfl, rfl⟩ := nx_inj h
    exact lv_dconst0 hx hb hd (K.same rfl hH hL ⟨rfl, hS⟩ hl)
  · cases h

theorem s_ldc {n : Nat} (C : CX G l k p R s m meth c) (hm : mcode k pc = some (.ldc n, x, y, z, u)) (hd : decode (mbytes k) pc = .ok (.ldc n, 2)) (hw : chkR k pc (.ldc n, x, y, z, u) = true) (hH : HR G ρ hs H) (hL : LR ρ (gO G) L ls (mmax k)) (hS : SR ρ (gO G) st ms) (hl : ∀ z ∈ locs, gB G ≤ z.base)
    (h : stepI k pc L st hs = some (.inr (.inl (k', pc', L', st', hs')))) (K : Kx G p l e R s m args below meth c cells slots Q hs hs' ρ k' pc' L' st') : W p l e R s m args below meth c H locs cells slots Q (F0 m pc ls ms) := by
  obtain ⟨g, t, hx, hb, hml, hown, hnm, hret, hlk, het, hfr, hlo, hlay⟩ := C
  unfold stepI at h
  rw [hm] at h
  dsimp only at h
  obtain ⟨rfl, rfl, rfl, rfl, rfl⟩ := nx_inj h
  exact lv_ldc hx hb hown (t.word g (wat_in hw) args) hd (K.same rfl hH hL ⟨rfl, hS⟩ hl)

theorem s_ldc2 {n : Nat} (C : CX G l k p R s m meth c) (hm : mcode k pc = some (.ldc2_w n, x, y, z, u)) (hd : decode (mbytes k) pc = .ok (.ldc2_w n, 3)) (hw : chkR k pc (.ldc2_w n, x, y, z, u) = true) (hH : HR G ρ hs H) (hL : LR ρ (gO G) L ls (mmax k)) (hS : SR ρ (gO G) st ms) (hl : ∀ z ∈ locs, gB G ≤ z.base)
    (h : stepI k pc L st hs = some (.inr (.inl (k', pc', L', st', hs')))) (K : Kx G p l e R s m args below meth c cells slots Q hs hs' ρ k' pc' L' st') : W p l e R s m args below meth c H locs cells slots Q (F0 m pc ls ms) := by
  obtain ⟨g, t, hx, hb, hml, hown, hnm, hret, hlk, het, hfr, hlo, hlay⟩ := C
  unfold stepI at h
  rw [hm] at h
  dsimp only at h
  obtain ⟨rfl, rfl, rfl, rfl, rfl⟩ := nx_inj h
  exact lv_ldc2 hx hb hown (t.word g (wat_in hw) args) hd (K.same rfl hH hL ⟨rfl, hS⟩ hl)

theorem s_iload_n {n : Fin 4} (C : CX G l k p R s m meth c) (hm : mcode k pc = some (.iload_n n, x, y, z, u)) (hd : decode (mbytes k) pc = .ok (.iload_n n, 1)) (hw : chkR k pc (.iload_n n, x, y, z, u) = true) (hH : HR G ρ hs H) (hL : LR ρ (gO G) L ls (mmax k)) (hS : SR ρ (gO G) st ms) (hl : ∀ z ∈ locs, gB G ≤ z.base)
    (h : stepI k pc L st hs = some (.inr (.inl (k', pc', L', st', hs')))) (K : Kx G p l e R s m args below meth c cells slots Q hs hs' ρ k' pc' L' st') : W p l e R s m args below meth c H locs cells slots Q (F0 m pc ls ms) := by
  obtain ⟨g, t, hx, hb, hml, hown, hnm, hret, hlk, het, hfr, hlo, hlay⟩ := C
  unfold stepI at h
  rw [hm] at h
  dsimp only at h
  split at h
  · next v hv =>
    obtain ⟨rfl, rfl, rfl, rfl, rfl⟩ := nx_inj h
    obtain ⟨w, e1, e2⟩ := hL.at hv (fun q => nomatch q)
    cases e2.int
    exact lv_iload_n hx hb hd rfl e1 (K.same rfl hH hL ⟨rfl, hS⟩ hl)
  · cases h

theorem s_iload {n : Nat} (C : CX G l k p R s m meth c) (hm : mcode k pc = some (.iload n, x, y, z, u)) (hd : decode (mbytes k) pc = .ok (.iload n, 2)) (hw : chkR k pc (.iload n, x, y, z, u) = true) (hH : HR G ρ hs H) (hL : LR ρ (gO G) L ls (mmax k)) (hS : SR ρ (gO G) st ms) (hl : ∀ z ∈ locs, gB G ≤ z.base)
    (h : stepI k pc L st hs = some (.inr (.inl (k', pc', L', st', hs')))) (K : Kx G p l e R s m args below meth c cells slots Q hs hs' ρ k' pc' L' st') : W p l e R s m args below meth c H locs cells slots Q (F0 m pc ls ms) := by
  obtain ⟨g, t, hx, hb, hml, hown, hnm, hret, hlk, het, hfr, hlo, hlay⟩ := C
  unfold stepI at h
  rw [hm] at h
  dsimp only at h
  split at h
  · next v hv =>
    obtain ⟨rfl, rfl, rfl, rfl, rfl⟩ := nx_inj h
    obtain ⟨w, e1, e2⟩ := hL.at hv (fun q => nomatch q)
    cases e2.int
    exact lv_iload hx hb hd e1 (K.same rfl hH hL ⟨rfl, hS⟩ hl)
  · cases h

theorem s_lload_n {n : Fin 4} (C : CX G l k p R s m meth c) (hm : mcode k pc = some (.lload_n n, x, y, z, u)) (hd : decode (mbytes k) pc = .ok (.lload_n n, 1)) (hw : chkR k pc (.lload_n n, x, y, z, u) = true) (hH : HR G ρ hs H) (hL : LR ρ (gO G) L ls (mmax k)) (hS : SR ρ (gO G) st ms) (hl : ∀ z ∈ locs, gB G ≤ z.base)
    (h : stepI k pc L st hs = some (.inr (.inl (k', pc', L', st', hs')))) (K : Kx G p l e R s m args below meth c cells slots Q hs hs' ρ k' pc' L' st') : W p l e R s m args below meth c H locs cells slots Q (F0 m pc ls ms) := by
  obtain ⟨g, t, hx, hb, hml, hown, hnm, hret, hlk, het, hfr, hlo, hlay⟩ := C
  unfold stepI at h
  rw [hm] at h
  dsimp only at h
  split at h
  · next v hv =>
    obtain ⟨rfl, rfl, rfl, rfl, rfl⟩ := nx_inj h
    obtain ⟨w, e1, e2⟩ := hL.at hv (fun q => nomatch q)
    cases e2.long
    exact lv_lload_n hx hb hd rfl e1 (K.same rfl hH hL ⟨rfl, hS⟩ hl)
  · cases h

theorem s_lload {n : Nat} (C : CX G l k p R s m meth c) (hm : mcode k pc = some (.lload n, x, y, z, u)) (hd : decode (mbytes k) pc = .ok (.lload n, 2)) (hw : chkR k pc (.lload n, x, y, z, u) = true) (hH : HR G ρ hs H) (hL : LR ρ (gO G) L ls (mmax k)) (hS : SR ρ (gO G) st ms) (hl : ∀ z ∈ locs, gB G ≤ z.base)
    (h : stepI k pc L st hs = some (.inr (.inl (k', pc', L', st', hs')))) (K : Kx G p l e R s m args below meth c cells slots Q hs hs' ρ k' pc' L' st') : W p l e R s m args below meth c H locs cells slots Q (F0 m pc ls ms) := by
  obtain ⟨g, t, hx, hb, hml, hown, hnm, hret, hlk, het, hfr, hlo, hlay⟩ := C
  unfold stepI at h
  rw [hm] at h
  dsimp only at h
  split at h
  · next v hv =>
    obtain ⟨rfl, rfl, rfl, rfl, rfl⟩ := nx_inj h
    obtain ⟨w, e1, e2⟩ := hL.at hv (fun q => nomatch q)
    cases e2.long
    exact lv_lload hx hb hd e1 (K.same rfl hH hL ⟨rfl, hS⟩ hl)
  · cases h

theorem s_fload {n : Nat} (C : CX G l k p R s m meth c) (hm : mcode k pc = some (.fload n, x, y, z, u)) (hd : decode (mbytes k) pc = .ok (.fload n, 2)) (hw : chkR k pc (.fload n, x, y, z, u) = true) (hH : HR G ρ hs H) (hL : LR ρ (gO G) L ls (mmax k)) (hS : SR ρ (gO G) st ms) (hl : ∀ z ∈ locs, gB G ≤ z.base)
    (h : stepI k pc L st hs = some (.inr (.inl (k', pc', L', st', hs')))) (K : Kx G p l e R s m args below meth c cells slots Q hs hs' ρ k' pc' L' st') : W p l e R s m args below meth c H locs cells slots Q (F0 m pc ls ms) := by
  obtain ⟨g, t, hx, hb, hml, hown, hnm, hret, hlk, het, hfr, hlo, hlay⟩ := C
  unfold stepI at h
  rw [hm] at h
  dsimp only at h
  split at h
  · next v hv =>
    obtain ⟨rfl, rfl, rfl, rfl, rfl⟩ := nx_inj h
    obtain ⟨w, e1, e2⟩ := hL.at hv (fun q => nomatch q)
    cases e2.float
    exact lv_fload hx hb hd e1 (K.same rfl hH hL ⟨rfl, hS⟩ hl)
  · cases h

theorem s_dload {n : Nat} (C : CX G l k p R s m meth c) (hm : mcode k pc = some (.dload n, x, y, z, u)) (hd : decode (mbytes k) pc = .ok (.dload n, 2)) (hw : chkR k pc (.dload n, x, y, z, u) = true) (hH : HR G ρ hs H) (hL : LR ρ (gO G) L ls (mmax k)) (hS : SR ρ (gO G) st ms) (hl : ∀ z ∈ locs, gB G ≤ z.base)
    (h : stepI k pc L st hs = some (.inr (.inl (k', pc', L', st', hs')))) (K : Kx G p l e R s m args below meth c cells slots Q hs hs' ρ k' pc' L' st') : W p l e R s m args below meth c H locs cells slots Q (F0 m pc ls ms) := by
  obtain ⟨g, t, hx, hb, hml, hown, hnm, hret, hlk, het, hfr, hlo, hlay⟩ := C
  unfold stepI at h
  rw [hm] at h
  dsimp only at h
  split at h
  · next v hv =>
    obtain ⟨rfl, rfl, rfl, rfl, rfl⟩ := nx_inj h
    obtain ⟨w, e1, e2⟩ := hL.at hv (fun q => nomatch q)
    cases e2.double
    exact lv_dload hx hb hd e1 (K.same rfl hH hL ⟨rfl, hS⟩ hl)
  · cases h

theorem s_aload_n {n : Fin 4} (C : CX G l k p R s m meth c) (hm : mcode k pc = some (.aload_n n, x, y, z, u)) (hd : decode (mbytes k) pc = .ok (.aload_n n, 1)) (hw : chkR k pc (.aload_n n, x, y, z, u) = true) (hH : HR G ρ hs H) (hL : LR ρ (gO G) L ls (mmax k)) (hS : SR ρ (gO G) st ms) (hl : ∀ z ∈ locs, gB G ≤ z.base)
    (h : stepI k pc L st hs = some (.inr (.inl (k', pc', L', st', hs')))) (K : Kx G p l e R s m args below meth c cells slots Q hs hs' ρ k' pc' L' st') : W p l e R s m args below meth c H locs cells slots Q (F0 m pc ls ms) := by
  obtain ⟨g, t, hx, hb, hml, hown, hnm, hret, hlk, het, hfr, hlo, hlay⟩ := C
  unfold stepI at h
  rw [hm] at h
  dsimp only at h
  split at h
  · next v hv =>
    split at h
    · next hr =>
      obtain ⟨rfl, rfl, rfl, rfl, rfl⟩ := nx_inj h
      obtain ⟨w, e1, e2⟩ := hL.at hv (fun q => by rw [q] at hr; cases hr)
      rcases VR.ro e2 hr with rfl | ⟨q, rfl⟩
      · exact lv_aload_nN hx hb hd rfl e1 (K.same rfl hH hL ⟨e2, hS⟩ hl)
      · exact lv_aload_n hx hb hd rfl e1 (K.same rfl hH hL ⟨e2, hS⟩ hl)
    · cases h
  · cases h

theorem s_aload {n : Nat} (C : CX G l k p R s m meth c) (hm : mcode k pc = some (.aload n, x, y, z, u)) (hd : decode (mbytes k) pc = .ok (.aload n, 2)) (hw : chkR k pc (.aload n, x, y, z, u) = true) (hH : HR G ρ hs H) (hL : LR ρ (gO G) L ls (mmax k)) (hS : SR ρ (gO G) st ms) (hl : ∀ z ∈ locs, gB G ≤ z.base)
    (h : stepI k pc L st hs = some (.inr (.inl (k', pc', L', st', hs')))) (K : Kx G p l e R s m args below meth c cells slots Q hs hs' ρ k' pc' L' st') : W p l e R s m args below meth c H locs cells slots Q (F0 m pc ls ms) := by
  obtain ⟨g, t, hx, hb, hml, hown, hnm, hret, hlk, het, hfr, hlo, hlay⟩ := C
  unfold stepI at h
  rw [hm] at h
  dsimp only at h
  split at h
  · next v hv =>
    split at h
    · next hr =>
      obtain ⟨rfl, rfl, rfl, rfl, rfl⟩ := nx_inj h
      obtain ⟨w, e1, e2⟩ := hL.at hv (fun q => by rw [q] at hr; cases hr)
      rcases VR.ro e2 hr with rfl | ⟨q, rfl⟩
      · exact lv_aloadN hx hb hd e1 (K.same rfl hH hL ⟨e2, hS⟩ hl)
      · exact lv_aload hx hb hd e1 (K.same rfl hH hL ⟨e2, hS⟩ hl)
    · cases h
  · cases h

theorem s_istore_n {n : Fin 4} (C : CX G l k p R s m meth c) (hm : mcode k pc = some (.istore_n n, x, y, z, u)) (hd : decode (mbytes k) pc = .ok (.istore_n n, 1)) (hw : chkR k pc (.istore_n n, x, y, z, u) = true) (hH : HR G ρ hs H) (hL : LR ρ (gO G) L ls (mmax k)) (hS : SR ρ (gO G) st ms) (hl : ∀ z ∈ locs, gB G ≤ z.base)
    (h : stepI k pc L st hs = some (.inr (.inl (k', pc', L', st', hs')))) (K : Kx G p l e R s m args below meth c cells slots Q hs hs' ρ k' pc' L' st') : W p l e R s m args below meth c H locs cells slots Q (F0 m pc ls ms) := by
  obtain ⟨g, t, hx, hb, hml, hown, hnm, hret, hlk, het, hfr, hlo, hlay⟩ := C
  unfold stepI at h
  rw [hm] at h
  dsimp only at h
  split at h
  · next v st =>
    split at h
    · next hi =>
      obtain ⟨rfl, rfl, rfl, rfl, rfl⟩ := nx_inj h
      obtain ⟨w0, ms0, rfl, r0, hS0⟩ := hS.cons
      have r0' := r0.int
      subst r0'
      obtain ⟨ls', e', hL'⟩ := hL.store hi rfl r0
      intro T hT X
      obtain ⟨tt, a, b⟩ := K.same rfl hH hL' hS0 hl T hT X
      refine ⟨tt, ?_, b⟩
      jvm_step X.here [X.here.top, ↓top_set X.here.top, hx, hb, hd, e']
      exact a
    · cases h
  · cases h

theorem s_istore {n : Nat} (C : CX G l k p R s m meth c) (hm : mcode k pc = some (.istore n, x, y, z, u)) (hd : decode (mbytes k) pc = .ok (.istore n, 2)) (hw : chkR k pc (.istore n, x, y, z, u) = true) (hH : HR G ρ hs H) (hL : LR ρ (gO G) L ls (mmax k)) (hS : SR ρ (gO G) st ms) (hl : ∀ z ∈ locs, gB G ≤ z.base)
    (h : stepI k pc L st hs = some (.inr (.inl (k', pc', L', st', hs')))) (K : Kx G p l e R s m args below meth c cells slots Q hs hs' ρ k' pc' L' st') : W p l e R s m args below meth c H locs cells slots Q (F0 m pc ls ms) := by
  obtain ⟨g, t, hx, hb, hml, hown, hnm, hret, hlk, het, hfr, hlo, hlay⟩ := C
  unfold stepI at h
  rw [hm] at h
  dsimp only at h
  split at h
  · next v st =>
    split at h
    · next hi =>
      obtain ⟨rfl, rfl, rfl, rfl, rfl⟩ := nx_inj h
      obtain ⟨w0, ms0, rfl, r0, hS0⟩ := hS.cons
      have r0' := r0.int
      subst r0'
      obtain ⟨ls', e', hL'⟩ := hL.store hi rfl r0
      intro T hT X
      obtain ⟨tt, a, b⟩ := K.same rfl hH hL' hS0 hl T hT X
      refine ⟨tt, ?_, b⟩
      jvm_step X.here [X.here.top, ↓top_set X.here.top, hx, hb, hd, e']
      exact a
    · cases h
  · cases h

theorem s_fstore {n : Nat} (C : CX G l k p R s m meth c) (hm : mcode k pc = some (.fstore n, x, y, z, u)) (hd : decode (mbytes k) pc = .ok (.fstore n, 2)) (hw : chkR k pc (.fstore n, x, y, z, u) = true) (hH : HR G ρ hs H) (hL : LR ρ (gO G) L ls (mmax k)) (hS : SR ρ (gO G) st ms) (hl : ∀ z ∈ locs, gB G ≤ z.base)
    (h : stepI k pc L st hs = some (.inr (.inl (k', pc', L', st', hs')))) (K : Kx G p l e R s m args below meth c cells slots Q hs hs' ρ k' pc' L' st') : W p l e R s m args below meth c H locs cells slots Q (F0 m pc ls ms) := by
  obtain ⟨g, t, hx, hb, hml, hown, hnm, hret, hlk, het, hfr, hlo, hlay⟩ := C
  unfold stepI at h
  rw [hm] at h
  dsimp only at h
  split at h
  · next v st =>
    split at h
    · next hi =>
      obtain ⟨rfl, rfl, rfl, rfl, rfl⟩ := nx_inj h
      obtain ⟨w0, ms0, rfl, r0, hS0⟩ := hS.cons
      have r0' := r0.float
      subst r0'
      obtain ⟨ls', e', hL'⟩ := hL.store hi rfl r0
      intro T hT X
      obtain ⟨tt, a, b⟩ := K.same rfl hH hL' hS0 hl T hT X
      refine ⟨tt, ?_, b⟩
      jvm_step X.here [X.here.top, ↓top_set X.here.top, hx, hb, hd, e']
      exact a
    · cases h
  · cases h

theorem s_dstore {n : Nat} (C : CX G l k p R s m meth c) (hm : mcode k pc = some (.dstore n, x, y, z, u)) (hd : decode (mbytes k) pc = .ok (.dstore n, 2)) (hw : chkR k pc (.dstore n, x, y, z, u) = true) (hH : HR G ρ hs H) (hL : LR ρ (gO G) L ls (mmax k)) (hS : SR ρ (gO G) st ms) (hl : ∀ z ∈ locs, gB G ≤ z.base)
    (h : stepI k pc L st hs = some (.inr (.inl (k', pc', L', st', hs')))) (K : Kx G p l e R s m args below meth c cells slots Q hs hs' ρ k' pc' L' st') : W p l e R s m args below meth c H locs cells slots Q (F0 m pc ls ms) := by
  obtain ⟨g, t, hx, hb, hml, hown, hnm, hret, hlk, het, hfr, hlo, hlay⟩ := C
  unfold stepI at h
  rw [hm] at h
  dsimp only at h
  split at h
  · next v st =>
    split at h
    · next hi =>
      obtain ⟨rfl, rfl, rfl, rfl, rfl⟩ := nx_inj h
      obtain ⟨w0, ms0, rfl, r0, hS0⟩ := hS.cons
      have r0' := r0.double
      subst r0'
      obtain ⟨ls', e', hL'⟩ := hL.store2 hi rfl r0
      intro T hT X
      obtain ⟨tt, a, b⟩ := K.same rfl hH hL' hS0 hl T hT X
      refine ⟨tt, ?_, b⟩
      jvm_step X.here [X.here.top, ↓top_set X.here.top, hx, hb, hd, e']
      exact a
    · cases h
  · cases h

theorem s_astore_n {n : Fin 4} (C : CX G l k p R s m meth c) (hm : mcode k pc = some (.astore_n n, x, y, z, u)) (hd : decode (mbytes k) pc = .ok (.astore_n n, 1)) (hw : chkR k pc (.astore_n n, x, y, z, u) = true) (hH : HR G ρ hs H) (hL : LR ρ (gO G) L ls (mmax k)) (hS : SR ρ (gO G) st ms) (hl : ∀ z ∈ locs, gB G ≤ z.base)
    (h : stepI k pc L st hs = some (.inr (.inl (k', pc', L', st', hs')))) (K : Kx G p l e R s m args below meth c cells slots Q hs hs' ρ k' pc' L' st') : W p l e R s m args below meth c H locs cells slots Q (F0 m pc ls ms) := by
  obtain ⟨g, t, hx, hb, hml, hown, hnm, hret, hlk, het, hfr, hlo, hlay⟩ := C
  unfold stepI at h
  rw [hm] at h
  dsimp only at h
  split at h
  · next v st =>
    split at h
    · next hi =>
      obtain ⟨rfl, rfl, rfl, rfl, rfl⟩ := nx_inj h
      obtain ⟨w0, ms0, rfl, r0, hS0⟩ := hS.cons
      rcases VR.rr r0 hi.2 with rfl | ⟨q, rfl⟩
      · obtain ⟨ls', e', hL'⟩ := hL.store hi.1 rfl r0
        intro T hT X
        obtain ⟨tt, a, b⟩ := K.same rfl hH hL' hS0 hl T hT X
        refine ⟨tt, ?_, b⟩
        jvm_step X.here [X.here.top, ↓top_set X.here.top, hx, hb, hd, e']
        exact ⟨rfl, a⟩
      · obtain ⟨ls', e', hL'⟩ := hL.store hi.1 rfl r0
        intro T hT X
        obtain ⟨tt, a, b⟩ := K.same rfl hH hL' hS0 hl T hT X
        refine ⟨tt, ?_, b⟩
        jvm_step X.here [X.here.top, ↓top_set X.here.top, hx, hb, hd, e']
        exact ⟨rfl, a⟩
    · cases h
  · cases h

theorem s_astore {n : Nat} (C : CX G l k p R s m meth c) (hm : mcode k pc = some (.astore n, x, y, z, u)) (hd : decode (mbytes k) pc = .ok (.astore n, 2)) (hw : chkR k pc (.astore n, x, y, z, u) = true) (hH : HR G ρ hs H) (hL : LR ρ (gO G) L ls (mmax k)) (hS : SR ρ (gO G) st ms) (hl : ∀ z ∈ locs, gB G ≤ z.base)
    (h : stepI k pc L st hs = some (.inr (.inl (k', pc', L', st', hs')))) (K : Kx G p l e R s m args below meth c cells slots Q hs hs' ρ k' pc' L' st') : W p l e R s m args below meth c H locs cells slots Q (F0 m pc ls ms) := by
  obtain ⟨g, t, hx, hb, hml, hown, hnm, hret, hlk, het, hfr, hlo, hlay⟩ := C
  unfold stepI at h
  rw [hm] at h
  dsimp only at h
  split at h
  · next v st =>
    split at h
    · next hi =>
      obtain ⟨rfl, rfl, rfl, rfl, rfl⟩ := nx_inj h
      obtain ⟨w0, ms0, rfl, r0, hS0⟩ := hS.cons
      rcases VR.rr r0 hi.2 with rfl | ⟨q, rfl⟩
      · obtain ⟨ls', e', hL'⟩ := hL.store hi.1 rfl r0
        intro T hT X
        obtain ⟨tt, a, b⟩ := K.same rfl hH hL' hS0 hl T hT X
        refine ⟨tt, ?_, b⟩
        jvm_step X.here [X.here.top, ↓top_set X.here.top, hx, hb, hd, e']
        exact ⟨rfl, a⟩
      · obtain ⟨ls', e', hL'⟩ := hL.store hi.1 rfl r0
        intro T hT X
        obtain ⟨tt, a, b⟩ := K.same rfl hH hL' hS0 hl T hT X
        refine ⟨tt, ?_, b⟩
        jvm_step X.here [X.here.top, ↓top_set X.here.top, hx, hb, hd, e']
        exact ⟨rfl, a⟩
    · cases h
  · cases h

theorem s_iinc {n : Nat} {cc : Int} (C : CX G l k p R s m meth c) (hm : mcode k pc = some (.iinc n cc, x, y, z, u)) (hd : decode (mbytes k) pc = .ok (.iinc n cc, 3)) (hw : chkR k pc (.iinc n cc, x, y, z, u) = true) (hH : HR G ρ hs H) (hL : LR ρ (gO G) L ls (mmax k)) (hS : SR ρ (gO G) st ms) (hl : ∀ z ∈ locs, gB G ≤ z.base)
    (h : stepI k pc L st hs = some (.inr (.inl (k', pc', L', st', hs')))) (K : Kx G p l e R s m args below meth c cells slots Q hs hs' ρ k' pc' L' st') : W p l e R s m args below meth c H locs cells slots Q (F0 m pc ls ms) := by
  obtain ⟨g, t, hx, hb, hml, hown, hnm, hret, hlk, het, hfr, hlo, hlay⟩ := C
  unfold stepI at h
  rw [hm] at h
  dsimp only at h
  split at h
  · next v hv =>
    obtain ⟨rfl, rfl, rfl, rfl, rfl⟩ := nx_inj h
    obtain ⟨w, e1, e2⟩ := hL.at hv (fun q => nomatch q)
    cases e2.int
    have hi : n < L.length := (List.getElem?_eq_some_iff.mp hv).1
    obtain ⟨ls', e', hL'⟩ := hL.store (v := .int (v + Int32.ofInt cc)) hi rfl rfl
    intro T hT X
    obtain ⟨tt, a, b⟩ := K.same rfl hH hL' hS hl T hT X
    refine ⟨tt, ?_, b⟩
    jvm_step X.here [X.here.top, ↓top_set X.here.top, hx, hb, hd, e1, e']
    exact a
  · cases h

theorem s_dup (C : CX G l k p R s m meth c) (hm : mcode k pc = some (.dup, x, y, z, u)) (hd : decode (mbytes k) pc = .ok (.dup, 1)) (hw : chkR k pc (.dup, x, y, z, u) = true) (hH : HR G ρ hs H) (hL : LR ρ (gO G) L ls (mmax k)) (hS : SR ρ (gO G) st ms) (hl : ∀ z ∈ locs, gB G ≤ z.base)
    (h : stepI k pc L st hs = some (.inr (.inl (k', pc', L', st', hs')))) (K : Kx G p l e R s m args below meth c cells slots Q hs hs' ρ k' pc' L' st') : W p l e R s m args below meth c H locs cells slots Q (F0 m pc ls ms) := by
  obtain ⟨g, t, hx, hb, hml, hown, hnm, hret, hlk, het, hfr, hlo, hlay⟩ := C
  unfold stepI at h
  rw [hm] at h
  dsimp only at h
  split at h
  · next v0 st =>
    split at h
    · next hc =>
      obtain ⟨rfl, rfl, rfl, rfl, rfl⟩ := nx_inj h
      obtain ⟨w0, ms0, rfl, r0, hS0⟩ := hS.cons
      exact lv_dup hx hb hd (by rw [r0.cat]; exact hc) (K.same rfl hH hL ⟨r0, r0, hS0⟩ hl)
    · cases h
  · cases h

theorem s_pop (C : CX G l k p R s m meth c) (hm : mcode k pc = some (.pop, x, y, z, u)) (hd : decode (mbytes k) pc = .ok (.pop, 1)) (hw : chkR k pc (.pop, x, y, z, u) = true) (hH : HR G ρ hs H) (hL : LR ρ (gO G) L ls (mmax k)) (hS : SR ρ (gO G) st ms) (hl : ∀ z ∈ locs, gB G ≤ z.base)
    (h : stepI k pc L st hs = some (.inr (.inl (k', pc', L', st', hs')))) (K : Kx G p l e R s m args below meth c cells slots Q hs hs' ρ k' pc' L' st') : W p l e R s m args below meth c H locs cells slots Q (F0 m pc ls ms) := by
  obtain ⟨g, t, hx, hb, hml, hown, hnm, hret, hlk, het, hfr, hlo, hlay⟩ := C
  unfold stepI at h
  rw [hm] at h
  dsimp only at h
  split at h
  · next v0 st =>
    split at h
    · next hc =>
      obtain ⟨rfl, rfl, rfl, rfl, rfl⟩ := nx_inj h
      obtain ⟨w0, ms0, rfl, r0, hS0⟩ := hS.cons
      exact lv_pop hx hb hd (by rw [r0.cat]; exact hc) (K.same rfl hH hL hS0 hl)
    · cases h
  · cases h

theorem s_dup2 (C : CX G l k p R s m meth c) (hm : mcode k pc = some (.dup2, x, y, z, u)) (hd : decode (mbytes k) pc = .ok (.dup2, 1)) (hw : chkR k pc (.dup2, x, y, z, u) = true) (hH : HR G ρ hs H) (hL : LR ρ (gO G) L ls (mmax k)) (hS : SR ρ (gO G) st ms) (hl : ∀ z ∈ locs, gB G ≤ z.base)
    (h : stepI k pc L st hs = some (.inr (.inl (k', pc', L', st', hs')))) (K : Kx G p l e R s m args below meth c cells slots Q hs hs' ρ k' pc' L' st') : W p l e R s m args below meth c H locs cells slots Q (F0 m pc ls ms) := by
  obtain ⟨g, t, hx, hb, hml, hown, hnm, hret, hlk, het, hfr, hlo, hlay⟩ := C
  unfold stepI at h
  rw [hm] at h
  dsimp only at h
  split at h
  · next v0 v1 st =>
    split at h
    · next hc =>
      obtain ⟨rfl, rfl, rfl, rfl, rfl⟩ := nx_inj h
      obtain ⟨w0, ms0, rfl, r0, hS0⟩ := hS.cons
      obtain ⟨w1, ms1, rfl, r1, hS1⟩ := hS0.cons
      exact lv_dup2_11 hx hb hd (by rw [r0.cat]; exact hc.1) (by rw [r1.cat]; exact hc.2) (K.same rfl hH hL ⟨r0, r1, r0, r1, hS1⟩ hl)
    · cases h
  · cases h

theorem s_dup_x1 (C : CX G l k p R s m meth c) (hm : mcode k pc = some (.dup_x1, x, y, z, u)) (hd : decode (mbytes k) pc = .ok (.dup_x1, 1)) (hw : chkR k pc (.dup_x1, x, y, z, u) = true) (hH : HR G ρ hs H) (hL : LR ρ (gO G) L ls (mmax k)) (hS : SR ρ (gO G) st ms) (hl : ∀ z ∈ locs, gB G ≤ z.base)
    (h : stepI k pc L st hs = some (.inr (.inl (k', pc', L', st', hs')))) (K : Kx G p l e R s m args below meth c cells slots Q hs hs' ρ k' pc' L' st') : W p l e R s m args below meth c H locs cells slots Q (F0 m pc ls ms) := by
  obtain ⟨g, t, hx, hb, hml, hown, hnm, hret, hlk, het, hfr, hlo, hlay⟩ := C
  unfold stepI at h
  rw [hm] at h
  dsimp only at h
  split at h
  · next v0 v1 st =>
    split at h
    · next hc =>
      obtain ⟨rfl, rfl, rfl, rfl, rfl⟩ := nx_inj h
      obtain ⟨w0, ms0, rfl, r0, hS0⟩ := hS.cons
      obtain ⟨w1, ms1, rfl, r1, hS1⟩ := hS0.cons
      exact lv_dup_x1 hx hb hd (by rw [r0.cat]; exact hc.1) (by rw [r1.cat]; exact hc.2) (K.same rfl hH hL ⟨r0, r1, r0, hS1⟩ hl)
    · cases h
  · cases h

theorem s_goto {o : Int} (C : CX G l k p R s m meth c) (hm : mcode k pc = some (.goto o, x, y, z, u)) (hd : decode (mbytes k) pc = .ok (.goto o, 3)) (hw : chkR k pc (.goto o, x, y, z, u) = true) (hH : HR G ρ hs H) (hL : LR ρ (gO G) L ls (mmax k)) (hS : SR ρ (gO G) st ms) (hl : ∀ z ∈ locs, gB G ≤ z.base)
    (h : stepI k pc L st hs = some (.inr (.inl (k', pc', L', st', hs')))) (K : Kx G p l e R s m args below meth c cells slots Q hs hs' ρ k' pc' L' st') : W p l e R s m args below meth c H locs cells slots Q (F0 m pc ls ms) := by
  obtain ⟨g, t, hx, hb, hml, hown, hnm, hret, hlk, het, hfr, hlo, hlay⟩ := C
  unfold stepI at h
  rw [hm] at h
  dsimp only at h
  obtain ⟨rfl, rfl, rfl, rfl, rfl⟩ := nx_inj h
  exact lv_goto hx hb hd (of_decide_eq_true hw) (K.same rfl hH hL hS hl)

theorem s_ifCond {cd : Jvm.ClassFile.Cond} {o : Int} (C : CX G l k p R s m meth c) (hm : mcode k pc = some (.ifCond cd o, x, y, z, u)) (hd : decode (mbytes k) pc = .ok (.ifCond cd o, 3)) (hw : chkR k pc (.ifCond cd o, x, y, z, u) = true) (hH : HR G ρ hs H) (hL : LR ρ (gO G) L ls (mmax k)) (hS : SR ρ (gO G) st ms) (hl : ∀ z ∈ locs, gB G ≤ z.base)
    (h : stepI k pc L st hs = some (.inr (.inl (k', pc', L', st', hs')))) (K : Kx G p l e R s m args below meth c cells slots Q hs hs' ρ k' pc' L' st') : W p l e R s m args below meth c H locs cells slots Q (F0 m pc ls ms) := by
  obtain ⟨g, t, hx, hb, hml, hown, hnm, hret, hlk, het, hfr, hlo, hlay⟩ := C
  unfold stepI at h
  rw [hm] at h
  dsimp only at h
  split at h
  · next v0 st =>
    obtain ⟨w0, ms0, rfl, r0, hS0⟩ := hS.cons
    cases r0.int
    have ht := of_decide_eq_true hw
    cases cd
    · refine lv_if_eq hx hb hd ht (fun hc => ?_) (fun hc => ?_)
      · rw [show icmp _ _ _ = true from by simpa [icmp] using hc] at h
        obtain ⟨rfl, rfl, rfl, rfl, rfl⟩ := nx_inj h
        exact K.same rfl hH hL hS0 hl
      · rw [show icmp _ _ _ = false from by simpa [icmp] using hc] at h
        obtain ⟨rfl, rfl, rfl, rfl, rfl⟩ := nx_inj h
        exact K.same rfl hH hL hS0 hl
    · refine lv_if_ne hx hb hd ht (fun hc => ?_) (fun hc => ?_)
      · rw [show icmp _ _ _ = true from by simpa [icmp] using hc] at h
        obtain ⟨rfl, rfl, rfl, rfl, rfl⟩ := nx_inj h
        exact K.same rfl hH hL hS0 hl
      · rw [show icmp _ _ _ = false from by simpa [icmp] using hc] at h
        obtain ⟨rfl, rfl, rfl, rfl, rfl⟩ := nx_inj h
        exact K.same rfl hH hL hS0 hl
    · refine lv_if_lt hx hb hd ht (fun hc => ?_) (fun hc => ?_)
      · rw [show icmp _ _ _ = true from by simpa [icmp] using hc] at h
        obtain ⟨rfl, rfl, rfl, rfl, rfl⟩ := nx_inj h
        exact K.same rfl hH hL hS0 hl
      · rw [show icmp _ _ _ = false from by simpa [icmp] using hc] at h
        obtain ⟨rfl, rfl, rfl, rfl, rfl⟩ := nx_inj h
        exact K.same rfl hH hL hS0 hl
    · refine lv_if_ge hx hb hd ht (fun hc => ?_) (fun hc => ?_)
      · rw [show icmp _ _ _ = true from by simpa [icmp] using hc] at h
        obtain ⟨rfl, rfl, rfl, rfl, rfl⟩ := nx_inj h
        exact K.same rfl hH hL hS0 hl
      · rw [show icmp _ _ _ = false from by simpa [icmp] using hc] at h
        obtain ⟨rfl, rfl, rfl, rfl, rfl⟩ := nx_inj h
        exact K.same rfl hH hL hS0 hl
    · refine lv_if_gt hx hb hd ht (fun hc => ?_) (fun hc => ?_)
      · rw [show icmp _ _ _ = true from by simpa [icmp] using hc] at h
        obtain ⟨rfl, rfl, rfl, rfl, rfl⟩ := nx_inj h
        exact K.same rfl hH hL hS0 hl
      · rw [show icmp _ _ _ = false from by simpa [icmp] using hc] at h
        obtain ⟨rfl, rfl, rfl, rfl, rfl⟩ := nx_inj h
        exact K.same rfl hH hL hS0 hl
    · refine lv_if_le hx hb hd ht (fun hc => ?_) (fun hc => ?_)
      · rw [show icmp _ _ _ = true from by simpa [icmp] using hc] at h
        obtain ⟨rfl, rfl, rfl, rfl, rfl⟩ := nx_inj h
        exact K.same rfl hH hL hS0 hl
      · rw [show icmp _ _ _ = false from by simpa [icmp] using hc] at h
        obtain ⟨rfl, rfl, rfl, rfl, rfl⟩ := nx_inj h
        exact K.same rfl hH hL hS0 hl
  · cases h

theorem s_if_icmp {cd : Jvm.ClassFile.Cond} {o : Int} (C : CX G l k p R s m meth c) (hm : mcode k pc = some (.if_icmp cd o, x, y, z, u)) (hd : decode (mbytes k) pc = .ok (.if_icmp cd o, 3)) (hw : chkR k pc (.if_icmp cd o, x, y, z, u) = true) (hH : HR G ρ hs H) (hL : LR ρ (gO G) L ls (mmax k)) (hS : SR ρ (gO G) st ms) (hl : ∀ z ∈ locs, gB G ≤ z.base)
    (h : stepI k pc L st hs = some (.inr (.inl (k', pc', L', st', hs')))) (K : Kx G p l e R s m args below meth c cells slots Q hs hs' ρ k' pc' L' st') : W p l e R s m args below meth c H locs cells slots Q (F0 m pc ls ms) := by
  obtain ⟨g, t, hx, hb, hml, hown, hnm, hret, hlk, het, hfr, hlo, hlay⟩ := C
  unfold stepI at h
  rw [hm] at h
  dsimp only at h
  split at h
  · next v0 v1 st =>
    obtain ⟨w0, ms0, rfl, r0, hS0⟩ := hS.cons
    cases r0.int
    obtain ⟨w1, ms1, rfl, r1, hS1⟩ := hS0.cons
    cases r1.int
    have ht := of_decide_eq_true hw
    cases cd
    · refine lv_icmp_eq hx hb hd ht (fun hc => ?_) (fun hc => ?_)
      · rw [show icmp _ _ _ = true from by simpa [icmp] using hc] at h
        obtain ⟨rfl, rfl, rfl, rfl, rfl⟩ := nx_inj h
        exact K.same rfl hH hL hS1 hl
      · rw [show icmp _ _ _ = false from by simpa [icmp] using hc] at h
        obtain ⟨rfl, rfl, rfl, rfl, rfl⟩ := nx_inj h
        exact K.same rfl hH hL hS1 hl
    · refine lv_icmp_ne hx hb hd ht (fun hc => ?_) (fun hc => ?_)
      · rw [show icmp _ _ _ = true from by simpa [icmp] using hc] at h
        obtain ⟨rfl, rfl, rfl, rfl, rfl⟩ := nx_inj h
        exact K.same rfl hH hL hS1 hl
      · rw [show icmp _ _ _ = false from by simpa [icmp] using hc] at h
        obtain ⟨rfl, rfl, rfl, rfl, rfl⟩ := nx_inj h
        exact K.same rfl hH hL hS1 hl
    · refine lv_icmp_lt hx hb hd ht (fun hc => ?_) (fun hc => ?_)
      · rw [show icmp _ _ _ = true from by simpa [icmp] using hc] at h
        obtain ⟨rfl, rfl, rfl, rfl, rfl⟩ := nx_inj h
        exact K.same rfl hH hL hS1 hl
      · rw [show icmp _ _ _ = false from by simpa [icmp] using hc] at h
        obtain ⟨rfl, rfl, rfl, rfl, rfl⟩ := nx_inj h
        exact K.same rfl hH hL hS1 hl
    · refine lv_icmp_ge hx hb hd ht (fun hc => ?_) (fun hc => ?_)
      · rw [show icmp _ _ _ = true from by simpa [icmp] using hc] at h
        obtain ⟨rfl, rfl, rfl, rfl, rfl⟩ := nx_inj h
        exact K.same rfl hH hL hS1 hl
      · rw [show icmp _ _ _ = false from by simpa [icmp] using hc] at h
        obtain ⟨rfl, rfl, rfl, rfl, rfl⟩ := nx_inj h
        exact K.same rfl hH hL hS1 hl
    · refine lv_icmp_gt hx hb hd ht (fun hc => ?_) (fun hc => ?_)
      · rw [show icmp _ _ _ = true from by simpa [icmp] using hc] at h
        obtain ⟨rfl, rfl, rfl, rfl, rfl⟩ := nx_inj h
        exact K.same rfl hH hL hS1 hl
      · rw [show icmp _ _ _ = false from by simpa [icmp] using hc] at h
        obtain ⟨rfl, rfl, rfl, rfl, rfl⟩ := nx_inj h
        exact K.same rfl hH hL hS1 hl
    · refine lv_icmp_le hx hb hd ht (fun hc => ?_) (fun hc => ?_)
      · rw [show icmp _ _ _ = true from by simpa [icmp] using hc] at h
        obtain ⟨rfl, rfl, rfl, rfl, rfl⟩ := nx_inj h
        exact K.same rfl hH hL hS1 hl
      · rw [show icmp _ _ _ = false from by simpa [icmp] using hc] at h
        obtain ⟨rfl, rfl, rfl, rfl, rfl⟩ := nx_inj h
        exact K.same rfl hH hL hS1 hl
  · cases h

theorem s_ifnull {o : Int} (C : CX G l k p R s m meth c) (hm : mcode k pc = some (.ifnull o, x, y, z, u)) (hd : decode (mbytes k) pc = .ok (.ifnull o, 3)) (hw : chkR k pc (.ifnull o, x, y, z, u) = true) (hH : HR G ρ hs H) (hL : LR ρ (gO G) L ls (mmax k)) (hS : SR ρ (gO G) st ms) (hl : ∀ z ∈ locs, gB G ≤ z.base)
    (h : stepI k pc L st hs = some (.inr (.inl (k', pc', L', st', hs')))) (K : Kx G p l e R s m args below meth c cells slots Q hs hs' ρ k' pc' L' st') : W p l e R s m args below meth c H locs cells slots Q (F0 m pc ls ms) := by
  obtain ⟨g, t, hx, hb, hml, hown, hnm, hret, hlk, het, hfr, hlo, hlay⟩ := C
  unfold stepI at h
  rw [hm] at h
  dsimp only at h
  split at h
  · next st =>
    obtain ⟨rfl, rfl, rfl, rfl, rfl⟩ := nx_inj h
    obtain ⟨w0, ms0, rfl, r0, hS0⟩ := hS.cons
    cases r0.null
    exact lv_ifnullN hx hb hd (of_decide_eq_true hw) (K.same rfl hH hL hS0 hl)
  · next a st =>
    obtain ⟨rfl, rfl, rfl, rfl, rfl⟩ := nx_inj h
    obtain ⟨w0, ms0, rfl, r0, hS0⟩ := hS.cons
    obtain ⟨q0, -, rfl⟩ := r0.ref
    exact lv_ifnull hx hb hd (K.same rfl hH hL hS0 hl)
  · cases h

theorem s_ifnonnull {o : Int} (C : CX G l k p R s m meth c) (hm : mcode k pc = some (.ifnonnull o, x, y, z, u)) (hd : decode (mbytes k) pc = .ok (.ifnonnull o, 3)) (hw : chkR k pc (.ifnonnull o, x, y, z, u) = true) (hH : HR G ρ hs H) (hL : LR ρ (gO G) L ls (mmax k)) (hS : SR ρ (gO G) st ms) (hl : ∀ z ∈ locs, gB G ≤ z.base)
    (h : stepI k pc L st hs = some (.inr (.inl (k', pc', L', st', hs')))) (K : Kx G p l e R s m args below meth c cells slots Q hs hs' ρ k' pc' L' st') : W p l e R s m args below meth c H locs cells slots Q (F0 m pc ls ms) := by
  obtain ⟨g, t, hx, hb, hml, hown, hnm, hret, hlk, het, hfr, hlo, hlay⟩ := C
  unfold stepI at h
  rw [hm] at h
  dsimp only at h
  split at h
  · next st =>
    obtain ⟨rfl, rfl, rfl, rfl, rfl⟩ := nx_inj h
    obtain ⟨w0, ms0, rfl, r0, hS0⟩ := hS.cons
    cases r0.null
    exact lv_ifnonnullN hx hb hd (K.same rfl hH hL hS0 hl)
  · next a st =>
    obtain ⟨rfl, rfl, rfl, rfl, rfl⟩ := nx_inj h
    obtain ⟨w0, ms0, rfl, r0, hS0⟩ := hS.cons
    obtain ⟨q0, -, rfl⟩ := r0.ref
    exact lv_ifnonnull hx hb hd (of_decide_eq_true hw) (K.same rfl hH hL hS0 hl)
  · cases h

theorem s_tableswitch {dd lo hi : Int} {offs : Array Int} {ln : Nat} (C : CX G l k p R s m meth c) (hm : mcode k pc = some (.tableswitch dd lo hi offs, x, y, z, u)) (hd : decode (mbytes k) pc = .ok (.tableswitch dd lo hi offs, ln)) (hw : chkR k pc (.tableswitch dd lo hi offs, x, y, z, u) = true) (hH : HR G ρ hs H) (hL : LR ρ (gO G) L ls (mmax k)) (hS : SR ρ (gO G) st ms) (hl : ∀ z ∈ locs, gB G ≤ z.base)
    (h : stepI k pc L st hs = some (.inr (.inl (k', pc', L', st', hs')))) (K : Kx G p l e R s m args below meth c cells slots Q hs hs' ρ k' pc' L' st') : W p l e R s m args below meth c H locs cells slots Q (F0 m pc ls ms) := by
  obtain ⟨g, t, hx, hb, hml, hown, hnm, hret, hlk, het, hfr, hlo, hlay⟩ := C
  unfold stepI at h
  rw [hm] at h
  dsimp only at h
  split at h
  · next v st =>
    obtain ⟨w0, ms0, rfl, r0, hS0⟩ := hS.cons
    cases r0.int
    split at h
    · next ho =>
      split at h
      · next h0 =>
        obtain ⟨rfl, rfl, rfl, rfl, rfl⟩ := nx_inj h
        exact lv_tableOut hx hb hd ho (by omega) (K.same rfl hH hL hS0 hl)
      · cases h
    · next ho =>
      split at h
      · next o hoo =>
        split at h
        · next h0 =>
          obtain ⟨rfl, rfl, rfl, rfl, rfl⟩ := nx_inj h
          exact lv_tableIn hx hb hd (fun z => ho (Or.inl z)) (fun z => ho (Or.inr z)) hoo (by omega) (K.same rfl hH hL hS0 hl)
        · cases h
      · cases h
  · cases h
end STP
