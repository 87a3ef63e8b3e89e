/-! ONE STEP over the heap -/
section STP2
variable {G : Gw} {p : Program} {l : Launch} {e : Env} {R : Room} {s : State} {m : MethodId} {args : Array Value} {below : List Frame} {meth : Method} {c : Code} {H : Heap} {locs : List Loc} {cells slots : Nat} {Q : State → Prop}
variable {k pc k' pc' x y z u : Nat} {L L' st st' ms : List Value} {hs hs' : HS} {ρ : Nat → Option Nat} {ls : Array Slot}
theorem fit_ok {ρ o : Nat → Option Nat} {ty : FieldType} {v w : Value} (r : VR ρ o v w) (h : fitp (rtC (some ty)) v = true) : narrow ty w = w ∧ fits ty w = true := by
  cases ty with
  | int => cases v <;> first | (cases r.int; exact ⟨rfl, rfl⟩) | cases h
  | long => cases v <;> first | (cases r.long; exact ⟨rfl, rfl⟩) | cases h
  | boolean =>
    cases v <;> first | cases h | skip
    next b =>
      cases r.int
      have h' : b = 0 ∨ b = 1 := by simpa [fitp, rtC] using h
      rcases h' with rfl | rfl <;> exact ⟨rfl, rfl⟩
  | byte =>
    cases v <;> first | cases h | skip
    next b =>
      cases r.int
      have h' : b = b.toInt8.toInt32 := by simpa [fitp, rtC] using h
      rw [h']
      exact ⟨pk_nb b, pk_fb b⟩
  | char =>
    cases v <;> first | cases h | skip
    next b =>
      cases r.int
      have h' : b = (b.toUInt32 % 65536).toInt32 := by simpa [fitp, rtC] using h
      rw [h']
      exact ⟨pk_nc b, pk_fc b⟩
  | object n =>
    cases v <;> first | cases h | skip
    · cases r.null; exact ⟨rfl, rfl⟩
    · obtain ⟨q, -, rfl⟩ := r.ref; exact ⟨rfl, rfl⟩
  | array t =>
    cases v <;> first | cases h | skip
    · cases r.null; exact ⟨rfl, rfl⟩
    · obtain ⟨q, -, rfl⟩ := r.ref; exact ⟨rfl, rfl⟩
  | _ => cases v <;> first | cases h | skip
theorem l_new {l' : List Loc} (hl : ∀ z ∈ locs, gB G ≤ z.base) {q i : Nat} (hq : gB G ≤ q) : ∀ z ∈ locs ++ [⟨q, i⟩], gB G ≤ z.base := by
  intro z hz
  rcases List.mem_append.mp hz with h | h
  · exact hl z h
  · rw [List.mem_singleton.mp h]; exact hq

theorem fit_b (v : Int32) : fitp 2 (.int (vp_nar .byte v)) = true := by
  have h : vp_nar .byte v = v.toInt8.toInt32 := vp_nar_byte v
  rw [h]
  have h2 := pk_nb v
  have h3 : narrow .byte (.int v.toInt8.toInt32) = .int v.toInt8.toInt32.toInt8.toInt32 := rfl
  rw [h3] at h2
  have h4 : v.toInt8.toInt32.toInt8.toInt32 = v.toInt8.toInt32 := Value.int.inj h2
  simp only [fitp, h4, beq_self_eq_true]
theorem VR.dflt {ρ o : Nat → Option Nat} (ty : FieldType) : VR ρ o (defaultValue ty) (defaultValue ty) := by
  cases ty <;> rfl
theorem rep_arr (cI : ClassId) (n : Nat) (v : Value) : ({ cls := cI, slots := Array.replicate n v, vm := .none } : Cell) = arrV cI n (fun _ => v) := by
  unfold arrV
  congr 1
  apply Array.ext
  · simp
  · intro i h1 h2
    simp
theorem akind_ok {t : ArrayType} {kd : Nat} {v : Value} (h : akind t = some (kd, v)) : (Cond.arrayClass (newarray.typeOf t) ∈ lw_W ∧ goodWord (Cond.arrayClass (newarray.typeOf t)) = true) ∧ newarray.typeOf t = aty kd ∧ (100 ≤ kd ∧ kd < 107) ∧ defaultValue (newarray.typeOf t) = v ∧ ((∀ ρ o : Nat → Option Nat, VR ρ o v v) ∧ (kd = 100 → fitp 0 v = true) ∧ (kd = 102 → fitp 2 v = true)) ∧ componentBytes (newarray.typeOf t) ≤ 8 := by
  cases t <;> first
    | (simp only [akind, Option.some.injEq, Prod.mk.injEq] at h
       obtain ⟨rfl, rfl⟩ := h
       refine ⟨mw_in (by simp [mwords, newarray.typeOf]), rfl, ⟨by decide, by decide⟩, rfl, ⟨fun _ _ => rfl, fun z => by first | rfl | omega, fun z => by first | rfl | omega⟩, by decide⟩)
    | cases h
theorem req_ok (g : GX G l) (hH : HR G ρ hs H) {a b w0 w1 : Value} {r : Bool} (h : req hs a b = some r) (r1 : VR ρ (gO G) a w1) (r0 : VR ρ (gO G) b w0) : ∃ rx ry : Option Nat, w0 = va_rf ry ∧ w1 = va_rf rx ∧ (r = true ↔ rx = ry) := by
  unfold req at h
  split at h
  · next x y =>
    split at h
    · next hc =>
      cases h
      obtain ⟨q1, e1, rfl⟩ := r1.ref
      obtain ⟨q0, e0, rfl⟩ := r0.ref
      refine ⟨some q1, some q0, rfl, rfl, ?_⟩
      rw [decide_eq_true_iff, Option.some_inj]
      constructor
      · rintro rfl
        exact Option.some.inj (e1.symm.trans e0)
      · rintro rfl
        obtain ⟨hx, hy⟩ := hc
        have small : ∀ z, 1 ≤ z ∧ z ≤ 4 → ∀ q, ρ z = some q → q = gC G z ∧ q < gB G := by
          intro z hz q e
          have := (hH.1 z (by unfold N0; omega)).2
          rw [this] at e
          cases e
          exact ⟨rfl, g.2.2.2.2.2.2.2.2.2 z hz.1 hz.2⟩
        rcases hx with hx | hx <;> rcases hy with hy | hy
        · obtain ⟨z1, -⟩ := small _ hx _ e1
          obtain ⟨z2, -⟩ := small _ hy _ e0
          exact g.2.2.2.2.2.2.2.2.1 _ _ hx.1 hx.2 hy.1 hy.2 (z1.symm.trans z2)
        · have z1 := (small _ hx _ e1).2
          have z2 := (hH.q hy.1 e0).1
          omega
        · have z1 := (small _ hy _ e0).2
          have z2 := (hH.q hx.1 e1).1
          omega
        · exact hH.2.2.2.1 _ _ _ hx.1 hy.1 e1 e0
    · cases h
  · cases h
    obtain ⟨q1, e1, rfl⟩ := r1.ref
    cases r0.null
    exact ⟨some q1, none, rfl, rfl, by simp⟩
  · cases h
    obtain ⟨q0, e0, rfl⟩ := r0.ref
    cases r1.null
    exact ⟨none, some q0, rfl, rfl, by simp⟩
  · cases h
    cases r0.null
    cases r1.null
    exact ⟨none, none, rfl, rfl, by simp⟩
  · cases h

theorem s_getfield {j : Nat} (C : CX G l k p R s m meth c) (hm : mcode k pc = some (.getfield j, x, y, z, u)) (hd : decode (mbytes k) pc = .ok (.getfield j, 3)) (hw : chkR k pc (.getfield j, x, y, z, u) = true) (hH : HR G ρ hs H) (hL : LR ρ (gO G) L ls (mmax k)) (hS : SR ρ (gO G) st ms) (hl : ∀ z ∈ locs, gB G ≤ z.base)
    (hrm : cells + (hs'.2.2.1 - hs.2.2.1) ≤ R.cells ∧ slots + (hs'.2.2.2 - hs.2.2.2) ≤ R.slots) (h : stepI k pc L st hs = some (.inr (.inl (k', pc', L', st', hs')))) (K : Kx G p l e R s m args below meth c cells slots Q hs hs' ρ k' pc' L' st') : W p l e R s m args below meth c H locs cells slots Q (F0 m pc ls ms) := by
  obtain ⟨g, t, hx, hb, hml, hown, hnm, hret, hlk, het, hfr, hlo, hlay⟩ := C
  unfold stepI at h
  rw [hm] at h
  dsimp only at h
  split at h
  · next a st =>
    split at h
    · next v hv =>
      obtain ⟨rfl, rfl, rfl, rfl, rfl⟩ := nx_inj h
      obtain ⟨w0, ms0, rfl, r0, hS0⟩ := hS.cons
      obtain ⟨q0, hq0, rfl⟩ := r0.ref
      unfold gfd at hv
      split at hv
      · next cc fs he =>
        split at hv
        · next hcc =>
          subst hcc
          simp only [chkR, Bool.and_eq_true, Nat.blt_eq] at hw
          obtain ⟨q, cell, w, cf, kk, i, f, f1, f2, f3, f4, f5, f6, f7⟩ := hH.fld g t hlay he hw.2 hw.1.2 hv
          cases hq0.symm.trans f1
          exact W.getf hx hb hown (t.word g (wat_in hw.1.1) args) f2 f3 f4 f5 f6 rfl rfl hd (K.same rfl hH hL ⟨f7, hS0⟩ hl)
        · cases hv
      · cases hv
    · cases h
  · cases h

theorem s_putfield {j : Nat} (C : CX G l k p R s m meth c) (hm : mcode k pc = some (.putfield j, x, y, z, u)) (hd : decode (mbytes k) pc = .ok (.putfield j, 3)) (hw : chkR k pc (.putfield j, x, y, z, u) = true) (hH : HR G ρ hs H) (hL : LR ρ (gO G) L ls (mmax k)) (hS : SR ρ (gO G) st ms) (hl : ∀ z ∈ locs, gB G ≤ z.base)
    (hrm : cells + (hs'.2.2.1 - hs.2.2.1) ≤ R.cells ∧ slots + (hs'.2.2.2 - hs.2.2.2) ≤ R.slots) (h : stepI k pc L st hs = some (.inr (.inl (k', pc', L', st', hs')))) (K : Kx G p l e R s m args below meth c cells slots Q hs hs' ρ k' pc' L' st') : W p l e R s m args below meth c H locs cells slots Q (F0 m pc ls ms) := by
  obtain ⟨g, t, hx, hb, hml, hown, hnm, hret, hlk, het, hfr, hlo, hlay⟩ := C
  unfold stepI at h
  rw [hm] at h
  dsimp only at h
  split at h
  · next v a st =>
    split at h
    · next hs1 hv =>
      obtain ⟨rfl, rfl, rfl, rfl, rfl⟩ := nx_inj h
      obtain ⟨w0, ms0, rfl, r0, hS0⟩ := hS.cons
      obtain ⟨w1, ms1, rfl, r1, hS1⟩ := hS0.cons
      obtain ⟨q1, hq1, rfl⟩ := r1.ref
      unfold pfd at hv
      split at hv
      · next cc fs he =>
        split at hv
        · next hcc =>
          obtain ⟨hcc, hc7, hN, hok, hfit⟩ := hcc
          subst hcc
          cases hv
          simp only [chkR, Bool.and_eq_true, Nat.blt_eq] at hw
          obtain ⟨⟨hw1, hk⟩, -⟩ := hw
          obtain ⟨q, f1, cell, c1, c2, c3⟩ := hH.2.1 a _ _ hN he
          cases hq1.symm.trans f1
          rcases c3 with ⟨-, d2, d3, d4⟩ | ⟨z1, -⟩
          · obtain ⟨T, hT, rfl⟩ := clsL_at hc7
            have hKn := u_Kn_moved t.alike (g.2.1.1 _ _ hT)
            obtain ⟨hSl, hfc, kC, hkC, hkind⟩ := hKn
            obtain ⟨cf, kf, fi, f, hi, hsl0⟩ := hSl y hk
            have hsl : f.slot = gI G cc y := hsl0
            obtain ⟨p1, p2, p3⟩ := fF_ok cc hc7 y hk
            have hts : ∀ w ∈ u_ws (cN cc) (fT cc) (fN cc), w.before args s = true := fun w hw => t.word g (lays_ok cc hc7 w hw) args
            have hlayw := hts _ (u_in_lay hk)
            have hin : ∀ w ∈ u_ws (cN cc) (fT cc) (fN cc), w ∈ u_ws (cN cc) (fT cc) (fN cc) := fun _ h => h
            have hst := (u_facts hfc hkC (u_lays hts hin hk) hi).1
            rw [← p2] at hfit
            obtain ⟨n1, n2⟩ := fit_ok r0 hfit
            have hap := va_apart (D := (gD G, gI G)) (cl := clsL) (tys := []) (s := s) (args := args) (own := mown k') hts hin (fun j => (fF cc).getD j .int) (fun j hj => (fF_ok cc hc7 j hj).1) (fun i hi j hj => nm_ok cc hc7 i hi j hj) ⟨fun i r hr => u_Kn_moved t.alike (g.2.1.1 i r hr), fun i r hr => by simp at hr⟩ hT
            obtain ⟨w', hw', -⟩ := d4 y (fs.getD y .null) (by rw [List.getD_eq_getElem?_getD, List.getElem?_eq_getElem (by omega)]; rfl)
            have hlt : f.slot < cell.slots.size := by rw [hsl]; exact (Array.getElem?_eq_some_iff.mp hw').1
            have hbq := hH.q hN f1
            have fin : ∀ H' : Heap, H'[q1]? = some (cell.setSlot f.slot w0) → H'.size = H.size → (∀ q, q ≠ q1 → H'[q]? = H[q]?) → W p l e R s m args below meth c H' (locs ++ [⟨q1, f.slot⟩]) cells slots Q (F0 m (pc + 3) ls ms1) := by
              intro H' e1 e2 e3
              refine K.same rfl (hH.upd hN f1 ⟨_, e1, c2, Or.inl ⟨hc7, d2, by rw [List.length_set]; exact d3, fun j v' hj => ?_⟩⟩ e2 e3) hL hS1 (l_new (l' := []) hl hbq.1)
              by_cases hjy : j = y
              · subst hjy
                rw [List.getElem?_set_self (by omega)] at hj
                cases hj
                refine ⟨w0, ?_, r0⟩
                rw [← hsl]
                show (cell.slots.setIfInBounds f.slot w0)[f.slot]? = _
                simp [hlt]
              · rw [List.getElem?_set_ne (Ne.symm hjy)] at hj
                obtain ⟨w2, g1, g2⟩ := d4 j v' hj
                refine ⟨w2, ?_, g2⟩
                have hne : f.slot ≠ gI G cc j := by rw [hsl]; exact hap y j hk (by have := (List.getElem?_eq_some_iff.mp hj).1; omega) (Ne.symm hjy)
                show (cell.slots.setIfInBounds f.slot w0)[gI G cc j]? = _
                rw [Array.getElem?_setIfInBounds_ne hne]
                exact g1
            cases hf : (fT cc y).2.2.2 with
            | false =>
              unfold u_lay at hlayw
              rw [if_neg (by rw [hf]; decide)] at hlayw
              exact W.putK hx hb (f := f) ⟨hown, t.word g (wat_in hw1) args, ⟨_, _, _, hi⟩, hst⟩ (by rw [d2]; exact u_store hfc hkC hkind hlayw hi p1 n1 n2) c1 c2 hlt rfl rfl hd fin
            | true =>
              rw [hf] at hok
              simp only [Bool.not_true, Bool.false_or, Bool.and_eq_true, decide_eq_true_eq] at hok
              unfold u_lay at hlayw
              rw [if_pos hf] at hlayw
              have hcf : m.cls = cf := by
                obtain ⟨_, _, c', _, _, _, -, -, hf', -, -, -, hown2, -⟩ := Cond.laysFinal_spec hlayw
                have e1 : c' = cf := by have := hi.symm.trans hf'; simp at this; exact this.1.symm
                rw [p3 hf, ← hok.2] at hown2
                rw [← e1]; exact Option.some.inj (hown.symm.trans hown2)
              exact W.putFinK hx hb hown (t.word g (wat_in hw1) args) hi hst hcf (hnm.trans hok.1) (by rw [d2]; exact u_fits hfc hkC hkind (Or.inr hlayw) hi p1 n1 n2) c1 c2 hlt rfl rfl hd fin
          · omega
        · cases hv
      · cases hv
    · cases h
  · cases h

theorem s_getstatic {j : Nat} (C : CX G l k p R s m meth c) (hm : mcode k pc = some (.getstatic j, x, y, z, u)) (hd : decode (mbytes k) pc = .ok (.getstatic j, 3)) (hw : chkR k pc (.getstatic j, x, y, z, u) = true) (hH : HR G ρ hs H) (hL : LR ρ (gO G) L ls (mmax k)) (hS : SR ρ (gO G) st ms) (hl : ∀ z ∈ locs, gB G ≤ z.base)
    (hrm : cells + (hs'.2.2.1 - hs.2.2.1) ≤ R.cells ∧ slots + (hs'.2.2.2 - hs.2.2.2) ≤ R.slots) (h : stepI k pc L st hs = some (.inr (.inl (k', pc', L', st', hs')))) (K : Kx G p l e R s m args below meth c cells slots Q hs hs' ρ k' pc' L' st') : W p l e R s m args below meth c H locs cells slots Q (F0 m pc ls ms) := by
  obtain ⟨g, t, hx, hb, hml, hown, hnm, hret, hlk, het, hfr, hlo, hlay⟩ := C
  unfold stepI at h
  rw [hm] at h
  dsimp only at h
  obtain ⟨rfl, rfl, rfl, rfl, rfl⟩ := nx_inj h
  have hx17 : x < 17 := by simp only [chkR, Bool.and_eq_true, Nat.blt_eq] at hw; exact hw.2
  obtain ⟨w, r, cf, kf, fi, f, a, cell, h1, h2, h3, h4, h5, h6, h7, h8⟩ := g.2.2.2.2.1 x hx17
  obtain ⟨kf', hi', he⟩ := State.fieldFound?_setVm t.alike h1
  have hi' : s.fieldFound? (sT x).1 (sT x).2.1 (sT x).2.2 = some (cf, kf', fi, f) := by simpa only [State.fieldFound?, State.vm_setVm] using hi'
  have hcell : H[a]? = some cell := by rw [hH.2.2.2.2.1.2 a (Nat.lt_of_not_le h8)]; exact h5
  have hK := K.same (ms := w :: ms) rfl hH hL ⟨r.mono hH.ext0, hS⟩ hl
  have hu : cell.vm ≠ .unknown := fun e => by rw [e] at h6; cases h6
  simp only [chkR, Bool.and_eq_true, Nat.blt_eq] at hw
  cases hy : Nat.beq y 0 with
  | true =>
    rw [hy] at hw
    exact W.gets hx hb hown (t.word g (wat_in hw.1) args) hi' h2 (by rw [he]; exact h3) (by rw [he]; exact h4) hcell hu h7 rfl hd hK
  | false =>
    rw [hy] at hw
    have hn : va_Nw _ s := va_Nw.warmF t (va_Nw.of rfl (g.1 _ (watN_in hw.1)))
    exact va_WgetsN hx hb hown (va_Nw.use rfl hn) hi' h2 (by rw [he]; exact h3) (by rw [he]; exact h4) hcell hu h7 rfl hd hK

theorem s_arraylength (C : CX G l k p R s m meth c) (hm : mcode k pc = some (.arraylength, x, y, z, u)) (hd : decode (mbytes k) pc = .ok (.arraylength, 1)) (hw : chkR k pc (.arraylength, x, y, z, u) = true) (hH : HR G ρ hs H) (hL : LR ρ (gO G) L ls (mmax k)) (hS : SR ρ (gO G) st ms) (hl : ∀ z ∈ locs, gB G ≤ z.base)
    (hrm : cells + (hs'.2.2.1 - hs.2.2.1) ≤ R.cells ∧ slots + (hs'.2.2.2 - hs.2.2.2) ≤ R.slots) (h : stepI k pc L st hs = some (.inr (.inl (k', pc', L', st', hs')))) (K : Kx G p l e R s m args below meth c cells slots Q hs hs' ρ k' pc' L' st') : W p l e R s m args below meth c H locs cells slots Q (F0 m pc ls ms) := by
  obtain ⟨g, t, hx, hb, hml, hown, hnm, hret, hlk, het, hfr, hlo, hlay⟩ := C
  unfold stepI at h
  rw [hm] at h
  dsimp only at h
  split at h
  · next a st =>
    split at h
    · next v hv =>
      obtain ⟨rfl, rfl, rfl, rfl, rfl⟩ := nx_inj h
      obtain ⟨w0, ms0, rfl, r0, hS0⟩ := hS.cons
      obtain ⟨q0, hq0, rfl⟩ := r0.ref
      unfold alen at hv
      split at hv
      · next cc vs he =>
        split at hv
        · next hcc =>
          cases hv
          obtain ⟨q, cell, f1, f2, f3, f4, f5, f6, f7⟩ := hH.arr g t he hcc.1 hcc.2
          cases hq0.symm.trans f1
          exact W.alen hx hb f2 f3 f6 rfl rfl hd (K.same rfl hH hL ⟨rfl, hS0⟩ hl)
        · cases hv
      · cases hv
    · cases h
  · cases h

theorem s_iaload (C : CX G l k p R s m meth c) (hm : mcode k pc = some (.iaload, x, y, z, u)) (hd : decode (mbytes k) pc = .ok (.iaload, 1)) (hw : chkR k pc (.iaload, x, y, z, u) = true) (hH : HR G ρ hs H) (hL : LR ρ (gO G) L ls (mmax k)) (hS : SR ρ (gO G) st ms) (hl : ∀ z ∈ locs, gB G ≤ z.base)
    (hrm : cells + (hs'.2.2.1 - hs.2.2.1) ≤ R.cells ∧ slots + (hs'.2.2.2 - hs.2.2.2) ≤ R.slots) (h : stepI k pc L st hs = some (.inr (.inl (k', pc', L', st', hs')))) (K : Kx G p l e R s m args below meth c cells slots Q hs hs' ρ k' pc' L' st') : W p l e R s m args below meth c H locs cells slots Q (F0 m pc ls ms) := by
  obtain ⟨g, t, hx, hb, hml, hown, hnm, hret, hlk, het, hfr, hlo, hlay⟩ := C
  unfold stepI at h
  rw [hm] at h
  dsimp only at h
  split at h
  · next j a st =>
    split at h
    · next v hv =>
      obtain ⟨rfl, rfl, rfl, rfl, rfl⟩ := nx_inj h
      obtain ⟨w0, ms0, rfl, r0, hS0⟩ := hS.cons
      cases r0.int
      obtain ⟨w1, ms1, rfl, r1, hS1⟩ := hS0.cons
      obtain ⟨q1, hq1, rfl⟩ := r1.ref
      unfold ald at hv
      split at hv
      · next cc vs he =>
        split at hv
        · next hcc =>
          obtain ⟨rfl, hin, -⟩ := hcc
          obtain ⟨q, cell, f1, f2, f3, f4, f5, f6, f7⟩ := hH.arr g t he (by omega) (by omega)
          cases hq1.symm.trans f1
          obtain ⟨w, w1, w2⟩ := f7 _ _ hv
          exact W.iald hx hb f2 f3 f4 (fun z => hin (z.imp id (fun z => by omega))) w1 rfl rfl hd (K.same rfl hH hL ⟨w2, hS1⟩ hl)
        · cases hv
      · cases hv
    · cases h
  · cases h

theorem s_caload (C : CX G l k p R s m meth c) (hm : mcode k pc = some (.caload, x, y, z, u)) (hd : decode (mbytes k) pc = .ok (.caload, 1)) (hw : chkR k pc (.caload, x, y, z, u) = true) (hH : HR G ρ hs H) (hL : LR ρ (gO G) L ls (mmax k)) (hS : SR ρ (gO G) st ms) (hl : ∀ z ∈ locs, gB G ≤ z.base)
    (hrm : cells + (hs'.2.2.1 - hs.2.2.1) ≤ R.cells ∧ slots + (hs'.2.2.2 - hs.2.2.2) ≤ R.slots) (h : stepI k pc L st hs = some (.inr (.inl (k', pc', L', st', hs')))) (K : Kx G p l e R s m args below meth c cells slots Q hs hs' ρ k' pc' L' st') : W p l e R s m args below meth c H locs cells slots Q (F0 m pc ls ms) := by
  obtain ⟨g, t, hx, hb, hml, hown, hnm, hret, hlk, het, hfr, hlo, hlay⟩ := C
  unfold stepI at h
  rw [hm] at h
  dsimp only at h
  split at h
  · next j a st =>
    split at h
    · next v hv =>
      obtain ⟨rfl, rfl, rfl, rfl, rfl⟩ := nx_inj h
      obtain ⟨w0, ms0, rfl, r0, hS0⟩ := hS.cons
      cases r0.int
      obtain ⟨w1, ms1, rfl, r1, hS1⟩ := hS0.cons
      obtain ⟨q1, hq1, rfl⟩ := r1.ref
      unfold ald at hv
      split at hv
      · next cc vs he =>
        split at hv
        · next hcc =>
          obtain ⟨rfl, hin, -⟩ := hcc
          obtain ⟨q, cell, f1, f2, f3, f4, f5, f6, f7⟩ := hH.arr g t he (by omega) (by omega)
          cases hq1.symm.trans f1
          obtain ⟨w, w1, w2⟩ := f7 _ _ hv
          exact W.cald hx hb f2 f3 f4 (fun z => hin (z.imp id (fun z => by omega))) w1 rfl rfl hd (K.same rfl hH hL ⟨w2, hS1⟩ hl)
        · cases hv
      · cases hv
    · cases h
  · cases h

theorem s_baload (C : CX G l k p R s m meth c) (hm : mcode k pc = some (.baload, x, y, z, u)) (hd : decode (mbytes k) pc = .ok (.baload, 1)) (hw : chkR k pc (.baload, x, y, z, u) = true) (hH : HR G ρ hs H) (hL : LR ρ (gO G) L ls (mmax k)) (hS : SR ρ (gO G) st ms) (hl : ∀ z ∈ locs, gB G ≤ z.base)
    (hrm : cells + (hs'.2.2.1 - hs.2.2.1) ≤ R.cells ∧ slots + (hs'.2.2.2 - hs.2.2.2) ≤ R.slots) (h : stepI k pc L st hs = some (.inr (.inl (k', pc', L', st', hs')))) (K : Kx G p l e R s m args below meth c cells slots Q hs hs' ρ k' pc' L' st') : W p l e R s m args below meth c H locs cells slots Q (F0 m pc ls ms) := by
  obtain ⟨g, t, hx, hb, hml, hown, hnm, hret, hlk, het, hfr, hlo, hlay⟩ := C
  unfold stepI at h
  rw [hm] at h
  dsimp only at h
  split at h
  · next j a st =>
    split at h
    · next v hv =>
      obtain ⟨rfl, rfl, rfl, rfl, rfl⟩ := nx_inj h
      obtain ⟨w0, ms0, rfl, r0, hS0⟩ := hS.cons
      cases r0.int
      obtain ⟨w1, ms1, rfl, r1, hS1⟩ := hS0.cons
      obtain ⟨q1, hq1, rfl⟩ := r1.ref
      unfold ald at hv
      split at hv
      · next cc vs he =>
        split at hv
        · next hcc =>
          obtain ⟨rfl, hin, -⟩ := hcc
          obtain ⟨q, cell, f1, f2, f3, f4, f5, f6, f7⟩ := hH.arr g t he (by omega) (by omega)
          cases hq1.symm.trans f1
          obtain ⟨w, w1, w2⟩ := f7 _ _ hv
          exact W.bald hx hb f2 f3 f4 (fun z => hin (z.imp id (fun z => by omega))) w1 rfl rfl hd (K.same rfl hH hL ⟨w2, hS1⟩ hl)
        · cases hv
      · cases hv
    · cases h
  · cases h

theorem s_laload (C : CX G l k p R s m meth c) (hm : mcode k pc = some (.laload, x, y, z, u)) (hd : decode (mbytes k) pc = .ok (.laload, 1)) (hw : chkR k pc (.laload, x, y, z, u) = true) (hH : HR G ρ hs H) (hL : LR ρ (gO G) L ls (mmax k)) (hS : SR ρ (gO G) st ms) (hl : ∀ z ∈ locs, gB G ≤ z.base)
    (hrm : cells + (hs'.2.2.1 - hs.2.2.1) ≤ R.cells ∧ slots + (hs'.2.2.2 - hs.2.2.2) ≤ R.slots) (h : stepI k pc L st hs = some (.inr (.inl (k', pc', L', st', hs')))) (K : Kx G p l e R s m args below meth c cells slots Q hs hs' ρ k' pc' L' st') : W p l e R s m args below meth c H locs cells slots Q (F0 m pc ls ms) := by
  obtain ⟨g, t, hx, hb, hml, hown, hnm, hret, hlk, het, hfr, hlo, hlay⟩ := C
  unfold stepI at h
  rw [hm] at h
  dsimp only at h
  split at h
  · next j a st =>
    split at h
    · next v hv =>
      obtain ⟨rfl, rfl, rfl, rfl, rfl⟩ := nx_inj h
      obtain ⟨w0, ms0, rfl, r0, hS0⟩ := hS.cons
      cases r0.int
      obtain ⟨w1, ms1, rfl, r1, hS1⟩ := hS0.cons
      obtain ⟨q1, hq1, rfl⟩ := r1.ref
      unfold ald at hv
      split at hv
      · next cc vs he =>
        split at hv
        · next hcc =>
          obtain ⟨rfl, hin, -⟩ := hcc
          obtain ⟨q, cell, f1, f2, f3, f4, f5, f6, f7⟩ := hH.arr g t he (by omega) (by omega)
          cases hq1.symm.trans f1
          obtain ⟨w, w1, w2⟩ := f7 _ _ hv
          exact W.lald hx hb f2 f3 f4 (fun z => hin (z.imp id (fun z => by omega))) w1 rfl rfl hd (K.same rfl hH hL ⟨w2, hS1⟩ hl)
        · cases hv
      · cases hv
    · cases h
  · cases h

theorem s_daload (C : CX G l k p R s m meth c) (hm : mcode k pc = some (.daload, x, y, z, u)) (hd : decode (mbytes k) pc = .ok (.daload, 1)) (hw : chkR k pc (.daload, x, y, z, u) = true) (hH : HR G ρ hs H) (hL : LR ρ (gO G) L ls (mmax k)) (hS : SR ρ (gO G) st ms) (hl : ∀ z ∈ locs, gB G ≤ z.base)
    (hrm : cells + (hs'.2.2.1 - hs.2.2.1) ≤ R.cells ∧ slots + (hs'.2.2.2 - hs.2.2.2) ≤ R.slots) (h : stepI k pc L st hs = some (.inr (.inl (k', pc', L', st', hs')))) (K : Kx G p l e R s m args below meth c cells slots Q hs hs' ρ k' pc' L' st') : W p l e R s m args below meth c H locs cells slots Q (F0 m pc ls ms) := by
  obtain ⟨g, t, hx, hb, hml, hown, hnm, hret, hlk, het, hfr, hlo, hlay⟩ := C
  unfold stepI at h
  rw [hm] at h
  dsimp only at h
  split at h
  · next j a st =>
    split at h
    · next v hv =>
      obtain ⟨rfl, rfl, rfl, rfl, rfl⟩ := nx_inj h
      obtain ⟨w0, ms0, rfl, r0, hS0⟩ := hS.cons
      cases r0.int
      obtain ⟨w1, ms1, rfl, r1, hS1⟩ := hS0.cons
      obtain ⟨q1, hq1, rfl⟩ := r1.ref
      unfold ald at hv
      split at hv
      · next cc vs he =>
        split at hv
        · next hcc =>
          obtain ⟨rfl, hin, -⟩ := hcc
          obtain ⟨q, cell, f1, f2, f3, f4, f5, f6, f7⟩ := hH.arr g t he (by omega) (by omega)
          cases hq1.symm.trans f1
          obtain ⟨w, w1, w2⟩ := f7 _ _ hv
          exact W.dald hx hb f2 f3 f4 (fun z => hin (z.imp id (fun z => by omega))) w1 rfl rfl hd (K.same rfl hH hL ⟨w2, hS1⟩ hl)
        · cases hv
      · cases hv
    · cases h
  · cases h

theorem s_aaload (C : CX G l k p R s m meth c) (hm : mcode k pc = some (.aaload, x, y, z, u)) (hd : decode (mbytes k) pc = .ok (.aaload, 1)) (hw : chkR k pc (.aaload, x, y, z, u) = true) (hH : HR G ρ hs H) (hL : LR ρ (gO G) L ls (mmax k)) (hS : SR ρ (gO G) st ms) (hl : ∀ z ∈ locs, gB G ≤ z.base)
    (hrm : cells + (hs'.2.2.1 - hs.2.2.1) ≤ R.cells ∧ slots + (hs'.2.2.2 - hs.2.2.2) ≤ R.slots) (h : stepI k pc L st hs = some (.inr (.inl (k', pc', L', st', hs')))) (K : Kx G p l e R s m args below meth c cells slots Q hs hs' ρ k' pc' L' st') : W p l e R s m args below meth c H locs cells slots Q (F0 m pc ls ms) := by
  obtain ⟨g, t, hx, hb, hml, hown, hnm, hret, hlk, het, hfr, hlo, hlay⟩ := C
  unfold stepI at h
  rw [hm] at h
  dsimp only at h
  split at h
  · next j a st =>
    split at h
    · next v hv =>
      obtain ⟨rfl, rfl, rfl, rfl, rfl⟩ := nx_inj h
      obtain ⟨w0, ms0, rfl, r0, hS0⟩ := hS.cons
      cases r0.int
      obtain ⟨w1, ms1, rfl, r1, hS1⟩ := hS0.cons
      obtain ⟨q1, hq1, rfl⟩ := r1.ref
      unfold aald at hv
      split at hv
      · next cc vs he =>
        split at hv
        · next hcc =>
          obtain ⟨hra, hin⟩ := hcc
          have h3 : cc = 105 ∨ cc = 106 ∨ cc = 107 := by simpa [isRefArr, Nat.beq_eq, or_assoc] using hra
          obtain ⟨q, cell, f1, f2, f3, f4, f5, f6, f7⟩ := hH.arr g t he (by omega) (by omega)
          cases hq1.symm.trans f1
          obtain ⟨w, w1, w2⟩ := f7 _ _ hv
          exact W.aald hx hb f2 f3 (by rcases h3 with rfl | rfl | rfl <;> rfl) f4 (fun z => hin (z.imp id (fun z => by omega))) w1 rfl rfl hd (K.same rfl hH hL ⟨w2, hS1⟩ hl)
        · cases hv
      · cases hv
    · cases h
  · cases h

theorem s_iastore (C : CX G l k p R s m meth c) (hm : mcode k pc = some (.iastore, x, y, z, u)) (hd : decode (mbytes k) pc = .ok (.iastore, 1)) (hw : chkR k pc (.iastore, x, y, z, u) = true) (hH : HR G ρ hs H) (hL : LR ρ (gO G) L ls (mmax k)) (hS : SR ρ (gO G) st ms) (hl : ∀ z ∈ locs, gB G ≤ z.base)
    (hrm : cells + (hs'.2.2.1 - hs.2.2.1) ≤ R.cells ∧ slots + (hs'.2.2.2 - hs.2.2.2) ≤ R.slots) (h : stepI k pc L st hs = some (.inr (.inl (k', pc', L', st', hs')))) (K : Kx G p l e R s m args below meth c cells slots Q hs hs' ρ k' pc' L' st') : W p l e R s m args below meth c H locs cells slots Q (F0 m pc ls ms) := by
  obtain ⟨g, t, hx, hb, hml, hown, hnm, hret, hlk, het, hfr, hlo, hlay⟩ := C
  unfold stepI at h
  rw [hm] at h
  dsimp only at h
  split at h
  · next v j a st =>
    split at h
    · next hs1 hv =>
      obtain ⟨rfl, rfl, rfl, rfl, rfl⟩ := nx_inj h
      obtain ⟨w0, ms0, rfl, r0, hS0⟩ := hS.cons
      cases r0.int
      obtain ⟨w1, ms1, rfl, r1, hS1⟩ := hS0.cons
      cases r1.int
      obtain ⟨w2, ms2, rfl, r2, hS2⟩ := hS1.cons
      obtain ⟨q2, hq2, rfl⟩ := r2.ref
      unfold ast at hv
      split at hv
      · next cc vs he =>
        split at hv
        · next hcc =>
          obtain ⟨rfl, hN, hin⟩ := hcc
          cases hv
          obtain ⟨q, f1, cell, c1, c2, c3⟩ := hH.2.1 a _ _ hN he
          cases hq2.symm.trans f1
          rcases c3 with ⟨z1, -⟩ | ⟨-, -, ⟨f, rfl, c4⟩, c5⟩
          · omega
          · refine W.iast hx hb c1 (State.isArrayOf_alike t.alike ((g.2.2.1 100 (by omega) (by omega)).2.1 _ _)) (by rw [c2]; exact fun z => nomatch z) (by rw [arrV_size]; exact hin) rfl rfl hd (fun H' e1 e2 e3 => ?_)
            refine K.same rfl (hH.upd hN f1 ⟨_, e1, c2, Or.inr ⟨by omega, by omega, ⟨updV f j.toNatClampNeg (.int v), by rw [List.length_set]; exact arrV_store _ _ _ _ _, fun i v' hi => ?_⟩, fun hc v' hv' => ?_, fun hc v' hv' => ?_⟩⟩ e2 e3) hL hS2 (l_new (l' := []) hl (hH.q hN f1).1)
            · unfold updV
              by_cases hij : i = j.toNatClampNeg
              · rw [if_pos hij]
                subst hij
                rw [List.getElem?_set_self (by omega)] at hi
                cases hi
                rfl
              · rw [if_neg hij]
                rw [List.getElem?_set_ne (Ne.symm hij)] at hi
                exact c4 i v' hi
            · exact (List.mem_or_eq_of_mem_set hv').elim (c5.1 hc v') (fun e => by first | omega | (rw [e]; rfl))
            · exact (List.mem_or_eq_of_mem_set hv').elim (c5.2 hc v') (fun e => by first | omega | (rw [e]; exact fit_b v))
        · cases hv
      · cases hv
    · cases h
  · cases h

theorem s_castore (C : CX G l k p R s m meth c) (hm : mcode k pc = some (.castore, x, y, z, u)) (hd : decode (mbytes k) pc = .ok (.castore, 1)) (hw : chkR k pc (.castore, x, y, z, u) = true) (hH : HR G ρ hs H) (hL : LR ρ (gO G) L ls (mmax k)) (hS : SR ρ (gO G) st ms) (hl : ∀ z ∈ locs, gB G ≤ z.base)
    (hrm : cells + (hs'.2.2.1 - hs.2.2.1) ≤ R.cells ∧ slots + (hs'.2.2.2 - hs.2.2.2) ≤ R.slots) (h : stepI k pc L st hs = some (.inr (.inl (k', pc', L', st', hs')))) (K : Kx G p l e R s m args below meth c cells slots Q hs hs' ρ k' pc' L' st') : W p l e R s m args below meth c H locs cells slots Q (F0 m pc ls ms) := by
  obtain ⟨g, t, hx, hb, hml, hown, hnm, hret, hlk, het, hfr, hlo, hlay⟩ := C
  unfold stepI at h
  rw [hm] at h
  dsimp only at h
  split at h
  · next v j a st =>
    split at h
    · next hs1 hv =>
      obtain ⟨rfl, rfl, rfl, rfl, rfl⟩ := nx_inj h
      obtain ⟨w0, ms0, rfl, r0, hS0⟩ := hS.cons
      cases r0.int
      obtain ⟨w1, ms1, rfl, r1, hS1⟩ := hS0.cons
      cases r1.int
      obtain ⟨w2, ms2, rfl, r2, hS2⟩ := hS1.cons
      obtain ⟨q2, hq2, rfl⟩ := r2.ref
      unfold ast at hv
      split at hv
      · next cc vs he =>
        split at hv
        · next hcc =>
          obtain ⟨rfl, hN, hin⟩ := hcc
          cases hv
          obtain ⟨q, f1, cell, c1, c2, c3⟩ := hH.2.1 a _ _ hN he
          cases hq2.symm.trans f1
          rcases c3 with ⟨z1, -⟩ | ⟨-, -, ⟨f, rfl, c4⟩, c5⟩
          · omega
          · refine W.cast hx hb c1 (State.isArrayOf_alike t.alike ((g.2.2.1 101 (by omega) (by omega)).2.1 _ _)) (by rw [c2]; exact fun z => nomatch z) (by rw [arrV_size]; exact hin) rfl rfl hd (fun H' e1 e2 e3 => ?_)
            refine K.same rfl (hH.upd hN f1 ⟨_, e1, c2, Or.inr ⟨by omega, by omega, ⟨updV f j.toNatClampNeg (.int (vp_nar .char v)), by rw [List.length_set]; exact arrV_store _ _ _ _ _, fun i v' hi => ?_⟩, fun hc v' hv' => ?_, fun hc v' hv' => ?_⟩⟩ e2 e3) hL hS2 (l_new (l' := []) hl (hH.q hN f1).1)
            · unfold updV
              by_cases hij : i = j.toNatClampNeg
              · rw [if_pos hij]
                subst hij
                rw [List.getElem?_set_self (by omega)] at hi
                cases hi
                rfl
              · rw [if_neg hij]
                rw [List.getElem?_set_ne (Ne.symm hij)] at hi
                exact c4 i v' hi
            · exact (List.mem_or_eq_of_mem_set hv').elim (c5.1 hc v') (fun e => by first | omega | (rw [e]; rfl))
            · exact (List.mem_or_eq_of_mem_set hv').elim (c5.2 hc v') (fun e => by first | omega | (rw [e]; exact fit_b v))
        · cases hv
      · cases hv
    · cases h
  · cases h

theorem s_bastore (C : CX G l k p R s m meth c) (hm : mcode k pc = some (.bastore, x, y, z, u)) (hd : decode (mbytes k) pc = .ok (.bastore, 1)) (hw : chkR k pc (.bastore, x, y, z, u) = true) (hH : HR G ρ hs H) (hL : LR ρ (gO G) L ls (mmax k)) (hS : SR ρ (gO G) st ms) (hl : ∀ z ∈ locs, gB G ≤ z.base)
    (hrm : cells + (hs'.2.2.1 - hs.2.2.1) ≤ R.cells ∧ slots + (hs'.2.2.2 - hs.2.2.2) ≤ R.slots) (h : stepI k pc L st hs = some (.inr (.inl (k', pc', L', st', hs')))) (K : Kx G p l e R s m args below meth c cells slots Q hs hs' ρ k' pc' L' st') : W p l e R s m args below meth c H locs cells slots Q (F0 m pc ls ms) := by
  obtain ⟨g, t, hx, hb, hml, hown, hnm, hret, hlk, het, hfr, hlo, hlay⟩ := C
  unfold stepI at h
  rw [hm] at h
  dsimp only at h
  split at h
  · next v j a st =>
    split at h
    · next hs1 hv =>
      obtain ⟨rfl, rfl, rfl, rfl, rfl⟩ := nx_inj h
      obtain ⟨w0, ms0, rfl, r0, hS0⟩ := hS.cons
      cases r0.int
      obtain ⟨w1, ms1, rfl, r1, hS1⟩ := hS0.cons
      cases r1.int
      obtain ⟨w2, ms2, rfl, r2, hS2⟩ := hS1.cons
      obtain ⟨q2, hq2, rfl⟩ := r2.ref
      unfold ast at hv
      split at hv
      · next cc vs he =>
        split at hv
        · next hcc =>
          obtain ⟨rfl, hN, hin⟩ := hcc
          cases hv
          obtain ⟨q, f1, cell, c1, c2, c3⟩ := hH.2.1 a _ _ hN he
          cases hq2.symm.trans f1
          rcases c3 with ⟨z1, -⟩ | ⟨-, -, ⟨f, rfl, c4⟩, c5⟩
          · omega
          · refine W.bast hx hb c1 (State.isArrayOf_alike t.alike ((g.2.2.1 102 (by omega) (by omega)).2.1 _ _)) (by rw [c2]; exact fun z => nomatch z) (by rw [arrV_size]; exact hin) rfl rfl hd (fun H' e1 e2 e3 => ?_)
            refine K.same rfl (hH.upd hN f1 ⟨_, e1, c2, Or.inr ⟨by omega, by omega, ⟨updV f j.toNatClampNeg (.int (vp_nar .byte v)), by rw [List.length_set]; exact arrV_store _ _ _ _ _, fun i v' hi => ?_⟩, fun hc v' hv' => ?_, fun hc v' hv' => ?_⟩⟩ e2 e3) hL hS2 (l_new (l' := []) hl (hH.q hN f1).1)
            · unfold updV
              by_cases hij : i = j.toNatClampNeg
              · rw [if_pos hij]
                subst hij
                rw [List.getElem?_set_self (by omega)] at hi
                cases hi
                rfl
              · rw [if_neg hij]
                rw [List.getElem?_set_ne (Ne.symm hij)] at hi
                exact c4 i v' hi
            · exact (List.mem_or_eq_of_mem_set hv').elim (c5.1 hc v') (fun e => by first | omega | (rw [e]; rfl))
            · exact (List.mem_or_eq_of_mem_set hv').elim (c5.2 hc v') (fun e => by first | omega | (rw [e]; exact fit_b v))
        · cases hv
      · cases hv
    · cases h
  · cases h

theorem s_lastore (C : CX G l k p R s m meth c) (hm : mcode k pc = some (.lastore, x, y, z, u)) (hd : decode (mbytes k) pc = .ok (.lastore, 1)) (hw : chkR k pc (.lastore, x, y, z, u) = true) (hH : HR G ρ hs H) (hL : LR ρ (gO G) L ls (mmax k)) (hS : SR ρ (gO G) st ms) (hl : ∀ z ∈ locs, gB G ≤ z.base)
    (hrm : cells + (hs'.2.2.1 - hs.2.2.1) ≤ R.cells ∧ slots + (hs'.2.2.2 - hs.2.2.2) ≤ R.slots) (h : stepI k pc L st hs = some (.inr (.inl (k', pc', L', st', hs')))) (K : Kx G p l e R s m args below meth c cells slots Q hs hs' ρ k' pc' L' st') : W p l e R s m args below meth c H locs cells slots Q (F0 m pc ls ms) := by
  obtain ⟨g, t, hx, hb, hml, hown, hnm, hret, hlk, het, hfr, hlo, hlay⟩ := C
  unfold stepI at h
  rw [hm] at h
  dsimp only at h
  split at h
  · next v j a st =>
    split at h
    · next hs1 hv =>
      obtain ⟨rfl, rfl, rfl, rfl, rfl⟩ := nx_inj h
      obtain ⟨w0, ms0, rfl, r0, hS0⟩ := hS.cons
      cases r0.long
      obtain ⟨w1, ms1, rfl, r1, hS1⟩ := hS0.cons
      cases r1.int
      obtain ⟨w2, ms2, rfl, r2, hS2⟩ := hS1.cons
      obtain ⟨q2, hq2, rfl⟩ := r2.ref
      unfold ast at hv
      split at hv
      · next cc vs he =>
        split at hv
        · next hcc =>
          obtain ⟨rfl, hN, hin⟩ := hcc
          cases hv
          obtain ⟨q, f1, cell, c1, c2, c3⟩ := hH.2.1 a _ _ hN he
          cases hq2.symm.trans f1
          rcases c3 with ⟨z1, -⟩ | ⟨-, -, ⟨f, rfl, c4⟩, c5⟩
          · omega
          · refine W.last hx hb c1 (State.isArrayOf_alike t.alike ((g.2.2.1 103 (by omega) (by omega)).2.1 _ _)) (by rw [c2]; exact fun z => nomatch z) (by rw [arrV_size]; exact hin) rfl rfl hd (fun H' e1 e2 e3 => ?_)
            refine K.same rfl (hH.upd hN f1 ⟨_, e1, c2, Or.inr ⟨by omega, by omega, ⟨updV f j.toNatClampNeg (.long v), by rw [List.length_set]; exact arrV_store _ _ _ _ _, fun i v' hi => ?_⟩, fun hc v' hv' => ?_, fun hc v' hv' => ?_⟩⟩ e2 e3) hL hS2 (l_new (l' := []) hl (hH.q hN f1).1)
            · unfold updV
              by_cases hij : i = j.toNatClampNeg
              · rw [if_pos hij]
                subst hij
                rw [List.getElem?_set_self (by omega)] at hi
                cases hi
                rfl
              · rw [if_neg hij]
                rw [List.getElem?_set_ne (Ne.symm hij)] at hi
                exact c4 i v' hi
            · exact (List.mem_or_eq_of_mem_set hv').elim (c5.1 hc v') (fun e => by first | omega | (rw [e]; rfl))
            · exact (List.mem_or_eq_of_mem_set hv').elim (c5.2 hc v') (fun e => by first | omega | (rw [e]; exact fit_b v))
        · cases hv
      · cases hv
    · cases h
  · cases h

theorem s_dastore (C : CX G l k p R s m meth c) (hm : mcode k pc = some (.dastore, x, y, z, u)) (hd : decode (mbytes k) pc = .ok (.dastore, 1)) (hw : chkR k pc (.dastore, x, y, z, u) = true) (hH : HR G ρ hs H) (hL : LR ρ (gO G) L ls (mmax k)) (hS : SR ρ (gO G) st ms) (hl : ∀ z ∈ locs, gB G ≤ z.base)
    (hrm : cells + (hs'.2.2.1 - hs.2.2.1) ≤ R.cells ∧ slots + (hs'.2.2.2 - hs.2.2.2) ≤ R.slots) (h : stepI k pc L st hs = some (.inr (.inl (k', pc', L', st', hs')))) (K : Kx G p l e R s m args below meth c cells slots Q hs hs' ρ k' pc' L' st') : W p l e R s m args below meth c H locs cells slots Q (F0 m pc ls ms) := by
  obtain ⟨g, t, hx, hb, hml, hown, hnm, hret, hlk, het, hfr, hlo, hlay⟩ := C
  unfold stepI at h
  rw [hm] at h
  dsimp only at h
  split at h
  · next v j a st =>
    split at h
    · next hs1 hv =>
      obtain ⟨rfl, rfl, rfl, rfl, rfl⟩ := nx_inj h
      obtain ⟨w0, ms0, rfl, r0, hS0⟩ := hS.cons
      cases r0.double
      obtain ⟨w1, ms1, rfl, r1, hS1⟩ := hS0.cons
      cases r1.int
      obtain ⟨w2, ms2, rfl, r2, hS2⟩ := hS1.cons
      obtain ⟨q2, hq2, rfl⟩ := r2.ref
      unfold ast at hv
      split at hv
      · next cc vs he =>
        split at hv
        · next hcc =>
          obtain ⟨rfl, hN, hin⟩ := hcc
          cases hv
          obtain ⟨q, f1, cell, c1, c2, c3⟩ := hH.2.1 a _ _ hN he
          cases hq2.symm.trans f1
          rcases c3 with ⟨z1, -⟩ | ⟨-, -, ⟨f, rfl, c4⟩, c5⟩
          · omega
          · refine W.dast hx hb c1 (State.isArrayOf_alike t.alike ((g.2.2.1 104 (by omega) (by omega)).2.1 _ _)) (by rw [c2]; exact fun z => nomatch z) (by rw [arrV_size]; exact hin) rfl rfl hd (fun H' e1 e2 e3 => ?_)
            refine K.same rfl (hH.upd hN f1 ⟨_, e1, c2, Or.inr ⟨by omega, by omega, ⟨updV f j.toNatClampNeg (.double v), by rw [List.length_set]; exact arrV_store _ _ _ _ _, fun i v' hi => ?_⟩, fun hc v' hv' => ?_, fun hc v' hv' => ?_⟩⟩ e2 e3) hL hS2 (l_new (l' := []) hl (hH.q hN f1).1)
            · unfold updV
              by_cases hij : i = j.toNatClampNeg
              · rw [if_pos hij]
                subst hij
                rw [List.getElem?_set_self (by omega)] at hi
                cases hi
                rfl
              · rw [if_neg hij]
                rw [List.getElem?_set_ne (Ne.symm hij)] at hi
                exact c4 i v' hi
            · exact (List.mem_or_eq_of_mem_set hv').elim (c5.1 hc v') (fun e => by first | omega | (rw [e]; rfl))
            · exact (List.mem_or_eq_of_mem_set hv').elim (c5.2 hc v') (fun e => by first | omega | (rw [e]; exact fit_b v))
        · cases hv
      · cases hv
    · cases h
  · cases h

theorem s_aastore (C : CX G l k p R s m meth c) (hm : mcode k pc = some (.aastore, x, y, z, u)) (hd : decode (mbytes k) pc = .ok (.aastore, 1)) (hw : chkR k pc (.aastore, x, y, z, u) = true) (hH : HR G ρ hs H) (hL : LR ρ (gO G) L ls (mmax k)) (hS : SR ρ (gO G) st ms) (hl : ∀ z ∈ locs, gB G ≤ z.base)
    (hrm : cells + (hs'.2.2.1 - hs.2.2.1) ≤ R.cells ∧ slots + (hs'.2.2.2 - hs.2.2.2) ≤ R.slots) (h : stepI k pc L st hs = some (.inr (.inl (k', pc', L', st', hs')))) (K : Kx G p l e R s m args below meth c cells slots Q hs hs' ρ k' pc' L' st') : W p l e R s m args below meth c H locs cells slots Q (F0 m pc ls ms) := by
  obtain ⟨g, t, hx, hb, hml, hown, hnm, hret, hlk, het, hfr, hlo, hlay⟩ := C
  unfold stepI at h
  rw [hm] at h
  dsimp only at h
  split at h
  · next v j a st =>
    split at h
    · next hs1 hv =>
      obtain ⟨rfl, rfl, rfl, rfl, rfl⟩ := nx_inj h
      obtain ⟨w0, ms0, rfl, r0, hS0⟩ := hS.cons
      obtain ⟨q0, hq0, rfl⟩ := r0.ref
      obtain ⟨w1, ms1, rfl, r1, hS1⟩ := hS0.cons
      cases r1.int
      obtain ⟨w2, ms2, rfl, r2, hS2⟩ := hS1.cons
      obtain ⟨q2, hq2, rfl⟩ := r2.ref
      unfold aast at hv
      split at hv
      · next cc vs he =>
        split at hv
        · next hcc =>
          obtain ⟨hkk, hNv, hN, hin⟩ := hcc
          cases hv
          obtain ⟨q, f1, cell, c1, c2, c3⟩ := hH.2.1 a _ _ hN he
          cases hq2.symm.trans f1
          rcases c3 with ⟨z1, -⟩ | ⟨-, -, ⟨f, rfl, c4⟩, c5⟩
          · omega
          · obtain ⟨ei, vso, hvo, hei, hat⟩ : ∃ (ei : Nat) (vso : List Value), hs.1 v = some (ei, vso) ∧ ei < 7 ∧ aty cc = .object (cN ei) := by
              rcases hkk with ⟨rfl, h1⟩ | ⟨rfl, h1⟩
              · cases hvv : hs.1 v with
                | none => rw [hvv] at h1; cases h1
                | some o => rw [hvv] at h1; obtain ⟨o1, o2⟩ := o; simp at h1; subst h1; exact ⟨2, o2, rfl, by decide, rfl⟩
              · cases hvv : hs.1 v with
                | none => rw [hvv] at h1; cases h1
                | some o => rw [hvv] at h1; obtain ⟨o1, o2⟩ := o; simp at h1; subst h1; exact ⟨1, o2, rfl, by decide, rfl⟩
            obtain ⟨qv, fv, cellV, d1, d2, d3⟩ := hH.2.1 v _ _ hNv hvo
            cases hq0.symm.trans fv
            rcases d3 with ⟨-, d4, -⟩ | ⟨z1, -⟩
            · obtain ⟨T, hT, rfl⟩ := clsL_at hei
              have hcls := (u_Kn_moved t.alike (g.2.1.1 _ _ hT)).2
              have hRA := ((g.2.2.1 cc (by omega) (by omega)).2.2).moved t.alike
              rw [hat] at hRA
              obtain ⟨kA, comp, k1, k2, k3, -⟩ := hRA
              have hcomp : comp = gD G ei := Option.some.inj (k3.symm.trans hcls.1)
              subst hcomp
              obtain ⟨kC, hkC, -⟩ := id hcls.2
              refine W.aast hx hb c1 (fun q h => by rw [c2] at h; cases h) (by rw [c2]; exact fun z => nomatch z) k1 k2 rfl hkC ⟨fun z => hin (Or.inl z), by rw [arrV_size]; omega⟩ d1 (fun q h => by rw [d2] at h; cases h) (by rw [d4]; exact hkC) (by rw [d4]; exact va_assign hcls) rfl rfl hd (fun H' e1 e2 e3 => ?_)
              refine K.same rfl (hH.upd hN f1 ⟨_, e1, c2, Or.inr ⟨by omega, by omega, ⟨updV f j.toNatClampNeg (.ref q0), by rw [List.length_set]; exact arrV_store _ _ _ _ _, fun i v' hi => ?_⟩, fun hc => by omega, fun hc => by omega⟩⟩ e2 e3) hL hS2 (l_new (l' := []) hl (hH.q hN f1).1)
              unfold updV
              by_cases hij : i = j.toNatClampNeg
              · rw [if_pos hij]
                subst hij
                rw [List.getElem?_set_self (by omega)] at hi
                cases hi
                exact ⟨q0, hq0, rfl⟩
              · rw [if_neg hij]
                rw [List.getElem?_set_ne (Ne.symm hij)] at hi
                exact c4 i v' hi
            · omega
        · cases hv
      · cases hv
    · cases h
  · cases h

theorem s_if_acmp {cd : Jvm.ClassFile.ACond} {o : Int} (C : CX G l k p R s m meth c) (hm : mcode k pc = some (.if_acmp cd o, x, y, z, u)) (hd : decode (mbytes k) pc = .ok (.if_acmp cd o, 3)) (hw : chkR k pc (.if_acmp cd o, x, y, z, u) = true) (hH : HR G ρ hs H) (hL : LR ρ (gO G) L ls (mmax k)) (hS : SR ρ (gO G) st ms) (hl : ∀ z ∈ locs, gB G ≤ z.base)
    (hrm : cells + (hs'.2.2.1 - hs.2.2.1) ≤ R.cells ∧ slots + (hs'.2.2.2 - hs.2.2.2) ≤ R.slots) (h : stepI k pc L st hs = some (.inr (.inl (k', pc', L', st', hs')))) (K : Kx G p l e R s m args below meth c cells slots Q hs hs' ρ k' pc' L' st') : W p l e R s m args below meth c H locs cells slots Q (F0 m pc ls ms) := by
  obtain ⟨g, t, hx, hb, hml, hown, hnm, hret, hlk, het, hfr, hlo, hlay⟩ := C
  unfold stepI at h
  rw [hm] at h
  dsimp only at h
  split at h
  · next b a st =>
    obtain ⟨w0, ms0, rfl, r0, hS0⟩ := hS.cons
    obtain ⟨w1, ms1, rfl, r1, hS1⟩ := hS0.cons
    have ht := of_decide_eq_true hw
    cases hq : req hs a b with
    | none => rw [hq] at h; cases h
    | some r =>
      rw [hq] at h
      obtain ⟨rx, ry, e1, e2, e3⟩ := req_ok g hH hq r1 r0
      subst e1; subst e2
      cases cd
      · refine lv_acmp_eq hx hb hd ht (fun hc => ?_) (fun hc => ?_)
        · rw [e3.mpr hc] at h
          obtain ⟨rfl, rfl, rfl, rfl, rfl⟩ := nx_inj h
          exact K.same rfl hH hL hS1 hl
        · rw [show r = false from by cases r with | false => rfl | true => exact absurd (e3.mp rfl) hc] at h
          obtain ⟨rfl, rfl, rfl, rfl, rfl⟩ := nx_inj h
          exact K.same rfl hH hL hS1 hl
      · refine lv_acmp_ne hx hb hd ht (fun hc => ?_) (fun hc => ?_)
        · rw [show r = false from by cases r with | false => rfl | true => exact absurd (e3.mp rfl) hc] at h
          obtain ⟨rfl, rfl, rfl, rfl, rfl⟩ := nx_inj h
          exact K.same rfl hH hL hS1 hl
        · rw [e3.mpr hc] at h
          obtain ⟨rfl, rfl, rfl, rfl, rfl⟩ := nx_inj h
          exact K.same rfl hH hL hS1 hl
  · cases h

theorem s_new {j : Nat} (C : CX G l k p R s m meth c) (hm : mcode k pc = some (.new j, x, y, z, u)) (hd : decode (mbytes k) pc = .ok (.new j, 3)) (hw : chkR k pc (.new j, x, y, z, u) = true) (hH : HR G ρ hs H) (hL : LR ρ (gO G) L ls (mmax k)) (hS : SR ρ (gO G) st ms) (hl : ∀ z ∈ locs, gB G ≤ z.base)
    (hrm : cells + (hs'.2.2.1 - hs.2.2.1) ≤ R.cells ∧ slots + (hs'.2.2.2 - hs.2.2.2) ≤ R.slots) (h : stepI k pc L st hs = some (.inr (.inl (k', pc', L', st', hs')))) (K : Kx G p l e R s m args below meth c cells slots Q hs hs' ρ k' pc' L' st') : W p l e R s m args below meth c H locs cells slots Q (F0 m pc ls ms) := by
  obtain ⟨g, t, hx, hb, hml, hown, hnm, hret, hlk, het, hfr, hlo, hlay⟩ := C
  unfold stepI at h
  rw [hm] at h
  dsimp only at h
  split at h
  · next hx7 =>
    obtain ⟨rfl, rfl, rfl, rfl, rfl⟩ := nx_inj h
    have hlt : Nat.blt x 7 = true := by rw [Nat.blt_eq]; exact hx7
    simp only [chkR, hlt, cond_true] at hw
    obtain ⟨T, hT, rfl⟩ := clsL_at hx7
    have hKn := u_Kn_moved t.alike (g.2.1.1 _ _ hT)
    obtain ⟨i1, i2⟩ := inst_ok x hx7
    have hrc : cells + 1 ≤ R.cells := by have := hrm.1; simp only [hsn] at this; omega
    have hrs : slots + fN x ≤ R.slots := by have := hrm.2; simp only [hsn] at this; omega
    refine W.newcK hx hb hown (t.word g (wat_in hw) args) (t.word g i1 args) (t.word g i2 args) rfl hd hrc hrs hKn.2.1 rfl (fun H' kC k1 k2 k3 k4 => ?_)
    have hts : ∀ w ∈ u_ws (cN x) (fT x) (fN x), w.before args s = true := fun w hw => t.word g (lays_ok x hx7 w hw) args
    obtain ⟨cell, b1, b2, b3, b4⟩ := u_born (o := H.size) (H := H') (fun j => (fF x).getD j .int) hts (fun _ h => h) hKn k1 k2 (fun j hj => (fF_ok x hx7 j hj).1)
    obtain ⟨d1, d2⟩ := dF_ok x hx7
    have hO : OR G (fun b => if b = hs.2.1 then some H.size else ρ b) H.size H' x (dF x) := by
      refine ⟨cell, b1, b3, Or.inl ⟨hx7, b2, by rw [d1, List.length_map, d2], fun j v hj => ?_⟩⟩
      rw [d1, List.getElem?_map] at hj
      cases hf : (fF x)[j]? with
      | none => rw [hf] at hj; cases hj
      | some ty =>
        rw [hf] at hj
        cases hj
        have hjl : j < fN x := by rw [← d2]; exact (List.getElem?_eq_some_iff.mp hf).1
        refine ⟨_, b4 j hjl, ?_⟩
        show VR _ _ _ (defaultValue ((fF x).getD j .int))
        rw [List.getD_eq_getElem?_getD, hf]
        exact VR.dflt ty
    have hE : Ext ρ (fun b => if b = hs.2.1 then some H.size else ρ b) := Ext.nw (hH.nx0 (Nat.le_refl _))
    have hfin := K _ ls (.ref H.size :: ms) H' locs hE (hH.new (n := fN x) hO k3 k4) (hL.mono hE) ⟨⟨H.size, by simp, rfl⟩, hS.mono hE⟩ hl
    simp only [hsn] at hfin
    rw [show cells + (hs.2.2.1 + 1 - hs.2.2.1) = cells + 1 by omega, show slots + (hs.2.2.2 + fN x - hs.2.2.2) = slots + fN x by omega] at hfin
    exact hfin
  · split at h <;> cases h

theorem s_newarray {at' : ArrayType} (C : CX G l k p R s m meth c) (hm : mcode k pc = some (.newarray at', x, y, z, u)) (hd : decode (mbytes k) pc = .ok (.newarray at', 2)) (hw : chkR k pc (.newarray at', x, y, z, u) = true) (hH : HR G ρ hs H) (hL : LR ρ (gO G) L ls (mmax k)) (hS : SR ρ (gO G) st ms) (hl : ∀ z ∈ locs, gB G ≤ z.base)
    (hrm : cells + (hs'.2.2.1 - hs.2.2.1) ≤ R.cells ∧ slots + (hs'.2.2.2 - hs.2.2.2) ≤ R.slots) (h : stepI k pc L st hs = some (.inr (.inl (k', pc', L', st', hs')))) (K : Kx G p l e R s m args below meth c cells slots Q hs hs' ρ k' pc' L' st') : W p l e R s m args below meth c H locs cells slots Q (F0 m pc ls ms) := by
  obtain ⟨g, t, hx, hb, hml, hown, hnm, hret, hlk, het, hfr, hlo, hlay⟩ := C
  unfold stepI at h
  rw [hm] at h
  dsimp only at h
  split at h
  · next n st =>
    split at h
    · next kd v hak =>
      split at h
      · cases h
      · next hn =>
        obtain ⟨rfl, rfl, rfl, rfl, rfl⟩ := nx_inj h
        obtain ⟨w0, ms0, rfl, r0, hS0⟩ := hS.cons
        cases r0.int
        obtain ⟨a1, a2, a3, a4, a5, a6⟩ := akind_ok hak
        have hrc : cells + 1 ≤ R.cells := by have := hrm.1; simp only [hsn] at this; omega
        have hrs : slots + n.toNatClampNeg ≤ R.slots := by have := hrm.2; simp only [hsn] at this; omega
        have h0 : ¬ n < 0 := fun z => hn (Or.inl z)
        have h1 : n.toNatClampNeg ≤ 100000 := by have : ¬ 100000 < n.toNatClampNeg := fun z => hn (Or.inr z); omega
        refine W.newa hx hb (t.word g a1 args) rfl hd rfl h0 (by have := Nat.mul_le_mul h1 a6; omega) hrc hrs (fun cA kA comp k1 k2 k3 => ?_)
        have hcA : cA = gK G kd := by
          have h9 := (g.2.2.1 kd a3.1 a3.2).1
          rw [← t.alike.findClass] at h9
          rw [a2] at k1
          exact Option.some.inj (k1.symm.trans h9)
        subst hcA
        have hce : (H.push { cls := gK G kd, slots := Array.replicate n.toNatClampNeg (defaultValue (newarray.typeOf at')), vm := .none })[H.size]? = some (arrV (gK G kd) n.toNatClampNeg (fun _ => v)) := by
          rw [Array.getElem?_push_size, a4, rep_arr]
        have hE : Ext ρ (fun b => if b = hs.2.1 then some H.size else ρ b) := Ext.nw (hH.nx0 (Nat.le_refl _))
        have hO : OR G (fun b => if b = hs.2.1 then some H.size else ρ b) H.size (H.push { cls := gK G kd, slots := Array.replicate n.toNatClampNeg (defaultValue (newarray.typeOf at')), vm := .none }) kd (List.replicate n.toNatClampNeg v) := by
          refine ⟨_, hce, rfl, Or.inr ⟨a3.1, a3.2, ⟨fun _ => v, by rw [List.length_replicate], fun j v' hj => ?_⟩, fun hc v' hv' => ?_, fun hc v' hv' => ?_⟩⟩
          · rw [List.eq_of_mem_replicate (List.mem_of_getElem? hj)]
            exact a5.1 _ _
          · rw [List.eq_of_mem_replicate hv']; exact a5.2.1 hc
          · rw [List.eq_of_mem_replicate hv']; exact a5.2.2 hc
        have hfin := K _ ls (.ref H.size :: ms0) _ locs hE (hH.new (n := n.toNatClampNeg) hO (by simp) (fun q hq => by rw [Array.getElem?_push_lt hq, Array.getElem?_eq_getElem hq])) (hL.mono hE) ⟨⟨H.size, by simp, rfl⟩, hS0.mono hE⟩ hl
        simp only [hsn] at hfin
        rw [show cells + (hs.2.2.1 + 1 - hs.2.2.1) = cells + 1 by omega, show slots + (hs.2.2.2 + n.toNatClampNeg - hs.2.2.2) = slots + n.toNatClampNeg by omega] at hfin
        exact hfin
    · cases h
  · cases h

theorem s_anewarray {j : Nat} (C : CX G l k p R s m meth c) (hm : mcode k pc = some (.anewarray j, x, y, z, u)) (hd : decode (mbytes k) pc = .ok (.anewarray j, 3)) (hw : chkR k pc (.anewarray j, x, y, z, u) = true) (hH : HR G ρ hs H) (hL : LR ρ (gO G) L ls (mmax k)) (hS : SR ρ (gO G) st ms) (hl : ∀ z ∈ locs, gB G ≤ z.base)
    (hrm : cells + (hs'.2.2.1 - hs.2.2.1) ≤ R.cells ∧ slots + (hs'.2.2.2 - hs.2.2.2) ≤ R.slots) (h : stepI k pc L st hs = some (.inr (.inl (k', pc', L', st', hs')))) (K : Kx G p l e R s m args below meth c cells slots Q hs hs' ρ k' pc' L' st') : W p l e R s m args below meth c H locs cells slots Q (F0 m pc ls ms) := by
  obtain ⟨g, t, hx, hb, hml, hown, hnm, hret, hlk, het, hfr, hlo, hlay⟩ := C
  unfold stepI at h
  rw [hm] at h
  dsimp only at h
  split at h
  · next n st =>
    split at h
    · cases h
    · next hn =>
      obtain ⟨rfl, rfl, rfl, rfl, rfl⟩ := nx_inj h
      obtain ⟨w0, ms0, rfl, r0, hS0⟩ := hS.cons
      cases r0.int
      simp only [chkR, Bool.and_eq_true, Bool.or_eq_true, Nat.beq_eq] at hw
      obtain ⟨hw1, hx2⟩ := hw
      have hrc : cells + 1 ≤ R.cells := by have := hrm.1; simp only [hsn] at this; omega
      have hrs : slots + n.toNatClampNeg ≤ R.slots := by have := hrm.2; simp only [hsn] at this; omega
      have h0 : ¬ n < 0 := fun z => hn (Or.inl z)
      have h1 : n.toNatClampNeg ≤ 100000 := by have : ¬ 100000 < n.toNatClampNeg := fun z => hn (Or.inr z); omega
      obtain ⟨hao, hat⟩ : va_AO (aN x) s ∧ aty x = .object (aN x) := by
        rcases hx2 with rfl | rfl
        · exact ⟨va_AO.moved t.alike (va_AO.of (g.1 _ ao_ok.1)), rfl⟩
        · exact ⟨va_AO.moved t.alike (va_AO.of (g.1 _ ao_ok.2.1)), rfl⟩
      refine W.anew hx hb hown (t.word g (wat_in hw1) args) (va_AO.use hao) rfl hd rfl h0 (by omega) hrc hrs (fun cA kA comp k1 k2 k3 k4 => ?_)
      have hcA : cA = gK G x := by
        have h9 := (g.2.2.1 x (by omega) (by omega)).1
        rw [← t.alike.findClass, hat] at h9
        exact Option.some.inj (k1.symm.trans h9)
      subst hcA
      have hce : (H.push { cls := gK G x, slots := Array.replicate n.toNatClampNeg .null, vm := .none })[H.size]? = some (arrV (gK G x) n.toNatClampNeg (fun _ => .null)) := by
        rw [Array.getElem?_push_size, rep_arr]
      have hE : Ext ρ (fun b => if b = hs.2.1 then some H.size else ρ b) := Ext.nw (hH.nx0 (Nat.le_refl _))
      have hO : OR G (fun b => if b = hs.2.1 then some H.size else ρ b) H.size (H.push { cls := gK G x, slots := Array.replicate n.toNatClampNeg .null, vm := .none }) x (List.replicate n.toNatClampNeg .null) := by
        refine ⟨_, hce, rfl, Or.inr ⟨by omega, by omega, ⟨fun _ => .null, by rw [List.length_replicate], fun j v' hj => ?_⟩, fun hc v' hv' => by omega, fun hc v' hv' => by omega⟩⟩
        rw [List.eq_of_mem_replicate (List.mem_of_getElem? hj)]
        rfl
      have hfin := K _ ls (.ref H.size :: ms0) _ locs hE (hH.new (n := n.toNatClampNeg) hO (by simp) (fun q hq => by rw [Array.getElem?_push_lt hq, Array.getElem?_eq_getElem hq])) (hL.mono hE) ⟨⟨H.size, by simp, rfl⟩, hS0.mono hE⟩ hl
      simp only [hsn] at hfin
      rw [show cells + (hs.2.2.1 + 1 - hs.2.2.1) = cells + 1 by omega, show slots + (hs.2.2.2 + n.toNatClampNeg - hs.2.2.2) = slots + n.toNatClampNeg by omega] at hfin
      exact hfin
  · cases h
end STP2
