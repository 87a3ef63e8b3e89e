/-! ONE STEP: the library's own methods -/
section STP3
variable {G : Gw} {p : Program} {l : Launch} {e : Env} {R : Room} {s : State} {m : MethodId} {args : Array Value} {below : List Frame} {meth : Method} {c : Code} {H : Heap} {locs : List Loc} {cells slots : Nat} {Q : State → Prop}
variable {k pc k' pc' x y z u : Nat} {L L' st st' ms : List Value} {hs hs' : HS} {ρ : Nat → Option Nat} {ls : Array Slot}

def nfw : Nat := nativeFrameWords "java/lang/System" "arraycopy" 5 + 11
theorem nfw_le : nfw ≤ 100 := by decide +kernel
theorem typ_int {c : Nat} {vs : List Value} (hk : c = 100 ∨ c = 102) (h : (c = 100 → ∀ v ∈ vs, fitp 0 v = true) ∧ (c = 102 → ∀ v ∈ vs, fitp 2 v = true)) : ∀ v ∈ vs, ∃ x, v = .int x := by
  intro v hv
  have h2 : fitp 0 v = true ∨ fitp 2 v = true := by
    rcases hk with rfl | rfl
    · exact Or.inl (h.1 rfl v hv)
    · exact Or.inr (h.2 rfl v hv)
  cases v with
  | int x => exact ⟨x, rfl⟩
  | _ => rcases h2 with h2 | h2 <;> cases h2
theorem arr_fI {cI : ClassId} {vs : List Value} {F : Nat → Value} {o : Nat → Option Nat} (h : ∀ (j : Nat) (v : Value), vs[j]? = some v → VR ρ o v (F j)) (ht : ∀ v ∈ vs, ∃ x, v = .int x) : arrV cI vs.length F = arrV cI vs.length (fun j => .int (fI vs j)) := by
  unfold arrV
  congr 1
  congr 1
  funext j
  have hj : vs[j.val]? = some vs[j.val] := List.getElem?_eq_getElem j.isLt
  obtain ⟨x, hx⟩ := ht _ (List.getElem_mem j.isLt)
  have h1 := h _ _ hj
  rw [hx] at h1 hj
  rw [h1.int]
  simp only [fI, hj]
theorem fitp2_fI {vs : List Value} {c j : Nat} (hc : c = 102) (h : (c = 100 → ∀ v ∈ vs, fitp 0 v = true) ∧ (c = 102 → ∀ v ∈ vs, fitp 2 v = true)) (hj : j < vs.length) : fitp 2 (.int (fI vs j)) = true := by
  have hj' : vs[j]? = some vs[j] := List.getElem?_eq_getElem hj
  have h1 := h.2 hc _ (List.getElem_mem hj)
  cases hv : vs[j] with
  | int x => rw [hv] at h1 hj'; simp only [fI, hj']; exact h1
  | _ => rw [hv] at h1; cases h1
theorem fits_fI {vs : List Value} {c j : Nat} (hk : c = 100 ∨ c = 102) (h : (c = 100 → ∀ v ∈ vs, fitp 0 v = true) ∧ (c = 102 → ∀ v ∈ vs, fitp 2 v = true)) (hj : j < vs.length) : fits (aty c) (.int (fI vs j)) = true := by
  rcases hk with rfl | rfl
  · rfl
  · have h1 := fitp2_fI rfl h hj
    have h2 : fI vs j = (fI vs j).toInt8.toInt32 := by simpa [fitp] using h1
    rw [h2]
    exact pk_fb _
theorem W_acp {cc : ByteArray} (hexec : p.tables.exec = Jvm.exec) {c0 : Code} (hb : c0.code = cc) (hml : c0.maxLocals = ls.size) {own : String} {index : Nat} (hown : s.vm.findClass own = some m.cls) (hlink : (Cond.methodLink own index arraycopyName).before args s = true) (hnat : (Cond.native arraycopyName).before args s = true) (hstat : (Cond.static arraycopyName).before args s = true) (hini : (Cond.initialized "java/lang/System").before args s = true)
    {c : Nat} {K0 K1 : ClassId} {ty : FieldType} (hprim : refKind ty = false) {qs qd n0 n1 : Nat} {f g : Nat → Int32} (hc0 : H[qs]? = some (arrV K0 n0 (fun j => .int (f j)))) (hc1 : H[qd]? = some (arrV K1 n1 (fun j => .int (g j)))) (ha0 : s.isArrayOf (arrV K0 n0 (fun j => .int (f j))) ty) (ha1 : s.isArrayOf (arrV K1 n1 (fun j => .int (g j))) ty)
    {sp dp n : Int32} (h1 : ¬ sp < 0) (h2 : ¬ dp < 0) (h3 : ¬ n < 0) (h4 : sp.toNatClampNeg + n.toNatClampNeg ≤ n0) (h5 : dp.toNatClampNeg + n.toNatClampNeg ≤ n1) (hfit : ∀ i, i < n.toNatClampNeg → fits ty (.int (f (sp.toNatClampNeg + i))) = true)
    {rest : List Value} (hframes : 1 ≤ R.frames) (hlocals : (rest.map fun v => v.category).sum + (nativeFrameWords "java/lang/System" "arraycopy" 5 + 11) ≤ R.locals) (hdg : decode cc pc = .ok (.invokestatic index, 3))
    (kk : ∀ (H1 : Heap) (L : List Loc), (∀ z ∈ L, z.base = qd) → H1[qd]? = some (arrV K1 n1 (fun j => .int (va_cpy f g sp.toNatClampNeg dp.toNatClampNeg n.toNatClampNeg j))) → H1.size = H.size → (∀ x, x ≠ qd → H1[x]? = H[x]?) → W p l e R s m args below meth c0 H1 (locs ++ L) cells slots Q (F0 m (pc + 3) ls rest)) : W p l e R s m args below meth c0 H locs cells slots Q (F0 m pc ls (.int n :: .int dp :: .ref qd :: .int sp :: .ref qs :: rest)) := by
  have nn : ∀ w : Int32, ¬ w < 0 → w.toInt = (w.toNatClampNeg : Int) := by
    intro w hw
    have hw0 : (0 : Int) ≤ w.toInt := by
      have := Int32.not_lt.mp hw
      simpa using Int32.le_iff_toInt_le.mp this
    show w.toInt = ((w.toInt.toNat : Nat) : Int)
    omega
  intro T hT X
  obtain ⟨-, k0, hk0, cm0, hkk0⟩ := ha0
  obtain ⟨-, k1, hk1, cm1, hkk1⟩ := ha1
  obtain ⟨vm', X', step⟩ := X.arraycopy hexec hown hlink hnat hstat hini (src := qs) (dst := qd) (cs := arrV K0 n0 (fun j => .int (f j))) (cd := arrV K1 n1 (fun j => .int (g j))) (srcPos := sp) (destPos := dp) (n := n) (by rw [hT]; exact hc0) (by rw [hT]; exact hc1)
    (fun _ h => by cases h) (fun _ h => by cases h) (fun h => by cases h) (fun h => by cases h) hk0 hk1 hkk0 hkk1 (by simp [hprim]) h1 h2 h3
    (by rw [nn sp h1, nn n h3, arrV_size]; omega) (by rw [nn dp h2, nn n h3, arrV_size]; omega)
    (fun vm₁ _ i hi => by
      have e : (arrV K0 n0 (fun j => .int (f j))).slots.getD (sp.toNatClampNeg + i) .null = .int (f (sp.toNatClampNeg + i)) := by
        rw [Array.getD_eq_getD_getElem?, arrV_read _ _ (by omega)]
        rfl
      rw [e]
      exact ⟨hfit i hi, trivial⟩)
    (g := F0 m pc ls (.int n :: .int dp :: .ref qd :: .int sp :: .ref qs :: rest)) rfl (by rw [hml]) (rest := rest) rfl (by rw [hb]; exact hdg) hframes (by show 2 * 0 + _ + _ ≤ _; omega)
  have e1 : copied (arrV K0 n0 (fun j => .int (f j))) (arrV K1 n1 (fun j => .int (g j))) sp dp n = arrV K1 n1 (fun j => .int (va_cpy f g sp.toNatClampNeg dp.toNatClampNeg n.toNatClampNeg j)) := va_copied (fun z => .int z) K0 K1 f g h4
  rw [e1] at X' step
  have hl : qd < T.heap.size := by rw [hT]; exact (Array.getElem?_eq_some_iff.mp hc1).1
  obtain ⟨tt, a1, b1⟩ := kk ((T.setVm vm').setCell qd (arrV K1 n1 (fun j => .int (va_cpy f g sp.toNatClampNeg dp.toNatClampNeg n.toNatClampNeg j)))).heap _ (fun z hz => by
      obtain ⟨q, -, rfl⟩ := List.mem_map.mp hz
      rfl) (heapAt_setCell_self _ (by exact hl)) (by rw [size_setCell]; exact congrArg Array.size hT) (fun x hx => by rw [heapAt_setCell_ne _ (Ne.symm hx)]; show T.heap[x]? = _; rw [hT]) _ rfl X'
  exact ⟨tt, step tt a1, b1⟩
theorem l_news (hl : ∀ z ∈ locs, gB G ≤ z.base) {q : Nat} (hq : gB G ≤ q) {L : List Loc} (hL : ∀ z ∈ L, z.base = q) : ∀ z ∈ locs ++ L, gB G ≤ z.base := by
  intro z hz
  rcases List.mem_append.mp hz with h | h
  · exact hl z h
  · rw [hL z h]; exact hq

theorem s_mmax {j : Nat} (C : CX G l k p R s m meth c) (hm : mcode k pc = some (.invokestatic j, x, 8, z, u)) (hd : decode (mbytes k) pc = .ok (.invokestatic j, 3)) (hw : chkR k pc (.invokestatic j, x, 8, z, u) = true) (hH : HR G ρ hs H) (hL : LR ρ (gO G) L ls (mmax k)) (hS : SR ρ (gO G) st ms) (hl : ∀ z ∈ locs, gB G ≤ z.base)
    (hrm : cells + (hs'.2.2.1 - hs.2.2.1) ≤ R.cells ∧ slots + (hs'.2.2.2 - hs.2.2.2) ≤ R.slots) (h : stepI k pc L st hs = some (.inr (.inl (k', pc', L', st', hs')))) (K : Kx G p l e R s m args below meth c cells slots Q hs hs' ρ k' pc' L' st') : W p l e R s m args below meth c H locs cells slots Q (F0 m pc ls ms) := by
  obtain ⟨g, t, hx, hb, hml, hown, hnm, hret, hlk, het, hfr, hlo, hlay⟩ := C
  unfold stepI at h
  rw [hm] at h
  dsimp only at h
  rw [if_pos rfl] at h
  split at h
  · next v0 v1 st =>
    split at h
    · next hst =>
      obtain ⟨rfl, rfl, rfl, rfl, rfl⟩ := nx_inj h
      obtain ⟨w0, ms0, rfl, r0, hS0⟩ := hS.cons
      cases r0.int
      obtain ⟨w1, ms1, rfl, r1, hS1⟩ := hS0.cons
      cases r1.int
      have hsum := hS1.sum
      have hc0 := hrm.1
      have hs0 := hrm.2
      rw [Nat.sub_self] at hc0 hs0
      exact va_mmax hx hb (by rw [hml, hL.1]) hown (t.word g (wat_in hw) args) (t.word g (mw_in (by simp [mwords])) args) (t.word g (mw_in (by simp [mwords])) args) (t.word g (mw_in (by simp [mwords])) args) (by omega) (by omega) hc0 hs0 hd (K.same rfl hH hL ⟨rfl, hS1⟩ hl)
    · cases h
  · cases h

theorem s_mmin {j : Nat} (C : CX G l k p R s m meth c) (hm : mcode k pc = some (.invokestatic j, x, 9, z, u)) (hd : decode (mbytes k) pc = .ok (.invokestatic j, 3)) (hw : chkR k pc (.invokestatic j, x, 9, z, u) = true) (hH : HR G ρ hs H) (hL : LR ρ (gO G) L ls (mmax k)) (hS : SR ρ (gO G) st ms) (hl : ∀ z ∈ locs, gB G ≤ z.base)
    (hrm : cells + (hs'.2.2.1 - hs.2.2.1) ≤ R.cells ∧ slots + (hs'.2.2.2 - hs.2.2.2) ≤ R.slots) (h : stepI k pc L st hs = some (.inr (.inl (k', pc', L', st', hs')))) (K : Kx G p l e R s m args below meth c cells slots Q hs hs' ρ k' pc' L' st') : W p l e R s m args below meth c H locs cells slots Q (F0 m pc ls ms) := by
  obtain ⟨g, t, hx, hb, hml, hown, hnm, hret, hlk, het, hfr, hlo, hlay⟩ := C
  unfold stepI at h
  rw [hm] at h
  dsimp only at h
  rw [if_neg (by decide), if_pos rfl] at h
  split at h
  · next v0 v1 st =>
    split at h
    · next hst =>
      obtain ⟨rfl, rfl, rfl, rfl, rfl⟩ := nx_inj h
      obtain ⟨w0, ms0, rfl, r0, hS0⟩ := hS.cons
      cases r0.int
      obtain ⟨w1, ms1, rfl, r1, hS1⟩ := hS0.cons
      cases r1.int
      have hsum := hS1.sum
      have hc0 := hrm.1
      have hs0 := hrm.2
      rw [Nat.sub_self] at hc0 hs0
      exact va_mmin hx hb (by rw [hml, hL.1]) hown (t.word g (wat_in hw) args) (t.word g (mw_in (by simp [mwords])) args) (t.word g (mw_in (by simp [mwords])) args) (t.word g (mw_in (by simp [mwords])) args) (by omega) (by omega) hc0 hs0 hd (K.same rfl hH hL ⟨rfl, hS1⟩ hl)
    · cases h
  · cases h

theorem s_mabs {j : Nat} (C : CX G l k p R s m meth c) (hm : mcode k pc = some (.invokestatic j, x, 10, z, u)) (hd : decode (mbytes k) pc = .ok (.invokestatic j, 3)) (hw : chkR k pc (.invokestatic j, x, 10, z, u) = true) (hH : HR G ρ hs H) (hL : LR ρ (gO G) L ls (mmax k)) (hS : SR ρ (gO G) st ms) (hl : ∀ z ∈ locs, gB G ≤ z.base)
    (hrm : cells + (hs'.2.2.1 - hs.2.2.1) ≤ R.cells ∧ slots + (hs'.2.2.2 - hs.2.2.2) ≤ R.slots) (h : stepI k pc L st hs = some (.inr (.inl (k', pc', L', st', hs')))) (K : Kx G p l e R s m args below meth c cells slots Q hs hs' ρ k' pc' L' st') : W p l e R s m args below meth c H locs cells slots Q (F0 m pc ls ms) := by
  obtain ⟨g, t, hx, hb, hml, hown, hnm, hret, hlk, het, hfr, hlo, hlay⟩ := C
  unfold stepI at h
  rw [hm] at h
  dsimp only at h
  rw [if_neg (by decide), if_neg (by decide), if_pos rfl] at h
  split at h
  · next v0 st =>
    split at h
    · next hst =>
      obtain ⟨rfl, rfl, rfl, rfl, rfl⟩ := nx_inj h
      obtain ⟨w0, ms0, rfl, r0, hS0⟩ := hS.cons
      cases r0.int
      have hsum := hS0.sum
      have hc0 := hrm.1
      have hs0 := hrm.2
      rw [Nat.sub_self] at hc0 hs0
      exact va_mabs hx hb (by rw [hml, hL.1]) hown (t.word g (wat_in hw) args) (t.word g (mw_in (by simp [mwords])) args) (t.word g (mw_in (by simp [mwords])) args) (t.word g (mw_in (by simp [mwords])) args) (by omega) (by omega) hc0 hs0 hd (K.same rfl hH hL ⟨rfl, hS0⟩ hl)
    · cases h
  · cases h

theorem s_objinit {j : Nat} (C : CX G l k p R s m meth c) (hm : mcode k pc = some (.invokespecial j, x, 7, z, u)) (hd : decode (mbytes k) pc = .ok (.invokespecial j, 3)) (hw : chkR k pc (.invokespecial j, x, 7, z, u) = true) (hH : HR G ρ hs H) (hL : LR ρ (gO G) L ls (mmax k)) (hS : SR ρ (gO G) st ms) (hl : ∀ z ∈ locs, gB G ≤ z.base)
    (hrm : cells + (hs'.2.2.1 - hs.2.2.1) ≤ R.cells ∧ slots + (hs'.2.2.2 - hs.2.2.2) ≤ R.slots) (h : stepI k pc L st hs = some (.inr (.inl (k', pc', L', st', hs')))) (K : Kx G p l e R s m args below meth c cells slots Q hs hs' ρ k' pc' L' st') : W p l e R s m args below meth c H locs cells slots Q (F0 m pc ls ms) := by
  obtain ⟨g, t, hx, hb, hml, hown, hnm, hret, hlk, het, hfr, hlo, hlay⟩ := C
  unfold stepI at h
  rw [hm] at h
  dsimp only at h
  rw [if_pos rfl] at h
  split at h
  · next a st =>
    split at h
    · next hst =>
      obtain ⟨rfl, rfl, rfl, rfl, rfl⟩ := nx_inj h
      obtain ⟨w0, ms0, rfl, r0, hS0⟩ := hS.cons
      obtain ⟨q0, -, rfl⟩ := r0.ref
      have hsum := hS0.sum
      exact W.objInit hx hb hown (t.word g (wat_in hw) args) (t.word g (mw_in (by simp [mwords])) args) (t.word g (mw_in (by simp [mwords])) args) rfl (by rw [hml]; exact hL.1) rfl hd (by omega) (by show 2 * 0 + _ + 12 ≤ _; omega) (K.same rfl hH hL hS0 hl)
    · cases h
  · cases h

theorem s_acp {j : Nat} (C : CX G l k p R s m meth c) (hm : mcode k pc = some (.invokestatic j, x, 11, z, u)) (hd : decode (mbytes k) pc = .ok (.invokestatic j, 3)) (hw : chkR k pc (.invokestatic j, x, 11, z, u) = true) (hH : HR G ρ hs H) (hL : LR ρ (gO G) L ls (mmax k)) (hS : SR ρ (gO G) st ms) (hl : ∀ z ∈ locs, gB G ≤ z.base)
    (hrm : cells + (hs'.2.2.1 - hs.2.2.1) ≤ R.cells ∧ slots + (hs'.2.2.2 - hs.2.2.2) ≤ R.slots) (h : stepI k pc L st hs = some (.inr (.inl (k', pc', L', st', hs')))) (K : Kx G p l e R s m args below meth c cells slots Q hs hs' ρ k' pc' L' st') : W p l e R s m args below meth c H locs cells slots Q (F0 m pc ls ms) := by
  obtain ⟨g, t, hx, hb, hml, hown, hnm, hret, hlk, het, hfr, hlo, hlay⟩ := C
  unfold stepI at h
  rw [hm] at h
  dsimp only at h
  rw [if_neg (by decide), if_neg (by decide), if_neg (by decide), if_pos rfl] at h
  split at h
  · next n dp d sp sa st =>
    split at h
    · next hst =>
      split at h
      · next hs1 hv =>
        obtain ⟨rfl, rfl, rfl, rfl, rfl⟩ := nx_inj h
        obtain ⟨w0, ms0, rfl, r0, hS0⟩ := hS.cons
        cases r0.int
        obtain ⟨w1, ms1, rfl, r1, hS1⟩ := hS0.cons
        cases r1.int
        obtain ⟨w2, ms2, rfl, r2, hS2⟩ := hS1.cons
        obtain ⟨qd, hqd, rfl⟩ := r2.ref
        obtain ⟨w3, ms3, rfl, r3, hS3⟩ := hS2.cons
        cases r3.int
        obtain ⟨w4, ms4, rfl, r4, hS4⟩ := hS3.cons
        obtain ⟨qs, hqs, rfl⟩ := r4.ref
        have hsum := hS4.sum
        unfold acp at hv
        split at hv
        · next cc vs c2 vd he1 he2 =>
          split at hv
          · next hcc =>
            obtain ⟨rfl, hk, hNs, hNd, h1, h2, h3, h4, h5⟩ := hcc
            cases hv
            obtain ⟨x1, f1, cell1, c1, c2, c3⟩ := hH.2.1 sa _ _ hNs he1
            cases hqs.symm.trans f1
            obtain ⟨x2, f2, cell2, d1, d2, d3⟩ := hH.2.1 d _ _ hNd he2
            cases hqd.symm.trans f2
            rcases c3 with ⟨z1, -⟩ | ⟨-, -, ⟨F1, rfl, c4⟩, c5⟩
            · omega
            rcases d3 with ⟨z1, -⟩ | ⟨-, -, ⟨F2, rfl, d4⟩, d5⟩
            · omega
            have t1 := typ_int hk c5
            have t2 := typ_int hk d5
            rw [arr_fI c4 t1] at c1
            rw [arr_fI d4 t2] at d1
            have hA := State.isArrayOf_alike t.alike ((g.2.2.1 cc (by omega) (by omega)).2.1 vs.length (fun j => .int (fI vs j)))
            have hA2 := State.isArrayOf_alike t.alike ((g.2.2.1 cc (by omega) (by omega)).2.1 vd.length (fun j => .int (fI vd j)))
            refine W_acp hx hb (by rw [hml, hL.1]) hown (t.word g (wat_in hw) args) (t.word g (mw_in (by simp [mwords])) args) (t.word g (mw_in (by simp [mwords])) args) (t.word g (mw_in (by simp [mwords])) args) (c := cc) (ty := aty cc) (by rcases hk with rfl | rfl <;> rfl) c1 d1 hA hA2 h1 h2 h3 h4 h5 (fun i hi => fits_fI hk c5 (by omega)) (by omega) (by rw [show nativeFrameWords "java/lang/System" "arraycopy" 5 + 11 = nfw from rfl]; have := nfw_le; omega) hd (fun H' L9 eL e1 e2 e3 => ?_)
            refine K.same rfl (hH.upd hNd f2 ⟨_, e1, rfl, Or.inr ⟨by omega, by omega, ⟨fun j => .int (va_cpy (fI vs) (fI vd) sp.toNatClampNeg dp.toNatClampNeg n.toNatClampNeg j), by rw [List.length_map, List.length_range], fun j v' hj => ?_⟩, fun hc v' hv' => ?_, fun hc v' hv' => ?_⟩⟩ e2 e3) hL hS4 (l_news hl (hH.q hNd f2).1 eL)
            · rw [List.getElem?_map] at hj
              cases hr : (List.range vd.length)[j]? with
              | none => rw [hr] at hj; cases hj
              | some i =>
                rw [hr] at hj
                cases hj
                have : i = j := by
                  have h9 := List.getElem?_eq_some_iff.mp hr
                  obtain ⟨h9, h10⟩ := h9
                  rw [List.getElem_range] at h10
                  exact h10.symm
                subst this
                rfl
            · obtain ⟨i, -, rfl⟩ := List.mem_map.mp hv'
              rfl
            · obtain ⟨i, hi, rfl⟩ := List.mem_map.mp hv'
              have hi' := List.mem_range.mp hi
              unfold va_cpy
              split
              · exact fitp2_fI hc c5 (by omega)
              · exact fitp2_fI hc d5 hi'
          · cases hv
        · cases hv
      · cases h
    · cases h
  · cases h
end STP3
