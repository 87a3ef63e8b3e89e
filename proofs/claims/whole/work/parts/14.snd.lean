/-! SOUNDNESS: what the pure machine answers, the machine answers. -/
def icE (e : Nat) : Nat := (bif Nat.beq e 0 then 96 else bif Nat.beq e 1 then 103 else bif Nat.beq e 2 then 108 else bif Nat.beq e 3 then 113 else bif Nat.beq e 4 then 273 else 328)
def xnm : List String := ["java/lang/RuntimeException", "java/lang/Exception"]
/-- the throws of the code: own class, constructor -/
def chkV (k : Nat) : Bool := (List.range (mtop k)).all fun pc => match mcode k pc with
  | some (.new _, x, _, _, u) => Nat.blt x 7 || (decide (mown k = "SingleTrackLine") && Nat.beq (u % 100000) (icE (x - 1000)))
  | _ => true
/-- the handlers -/
def chkX (k : Nat) : Bool := decide ((mhh k).length = (mexc k).length) && ((mhh k).zip (mexc k)).all fun q =>
  decide (q.1 = (q.2.1, q.2.2.1, q.2.2.2.1, q.1.2.2.2)) && Nat.blt q.2.2.2.2.1 6 && decide (q.1.2.2.2 ≠ 0) && wat q.2.2.2.2.2 (.classLink (mown k) q.1.2.2.2 (eN q.2.2.2.2.1))
set_option maxRecDepth 100000 in
theorem chkX_ok : (List.range 282).all chkX = true := by decide +kernel
set_option maxRecDepth 100000 in
theorem atS_ok : (List.range 6).all (fun e => (Cond.initialized (eN e) :: vx_atS "SingleTrackLine" (icE e) (eN e) xnm).all fun w => decide (w ∈ lw_W) && vx_ot w) = true := by decide +kernel
theorem atS_in {e : Nat} (he : e < 6) {w : Cond} (h : w ∈ Cond.initialized (eN e) :: vx_atS "SingleTrackLine" (icE e) (eN e) xnm) : w ∈ lw_W ∧ vx_ot w = true := by
  have h1 := List.all_eq_true.mp (List.all_eq_true.mp atS_ok e (List.mem_range.mpr he)) w h
  rw [Bool.and_eq_true] at h1
  exact ⟨of_decide_eq_true h1.1, h1.2⟩
theorem fit_names : (∀ e, e < 6 → Bundle.fit (eN e) = true) ∧ ∀ n ∈ xnm, Bundle.fit n = true := by decide +kernel
theorem cast_in {e : Nat} (he : e < 6) : Cond.castable (eN e) (eN e) ∈ Cond.initialized (eN e) :: vx_atS "SingleTrackLine" (icE e) (eN e) xnm := by
  have : ∀ e, e < 6 → Cond.castable (eN e) (eN e) ∈ Cond.initialized (eN e) :: vx_atS "SingleTrackLine" (icE e) (eN e) xnm := by decide +kernel
  exact this e he
/-- locals at a method's entry -/
theorem eL1_get {ρ o : Nat → Option Nat} : ∀ {as ws : List Value}, SR ρ o as ws → (lg_sl ws).length = (eL1 as).length ∧ ∀ (i : Nat) (v : Value), (eL1 as)[i]? = some v → v = un ∨ ∃ w : Value, (lg_sl ws)[i]? = some (Slot.val w) ∧ VR ρ o v w
  | [], [], _ => ⟨rfl, fun i v h => by simp [eL1] at h⟩
  | v :: as, w :: ws, r => by
    obtain ⟨ih1, ih2⟩ := eL1_get r.2
    have hc := r.1.cat
    have h1 : ∀ v' : Value, v'.category = 1 → v' = v → eL1 (v :: as) = v :: eL1 as → (lg_sl (w :: ws)).length = (eL1 (v :: as)).length ∧ ∀ (i : Nat) (u : Value), (eL1 (v :: as))[i]? = some u → u = un ∨ ∃ w' : Value, (lg_sl (w :: ws))[i]? = some (Slot.val w') ∧ VR ρ o u w' := by
      intro v' hv' e1 e2
      subst e1
      have hw : lg_sl (w :: ws) = .val w :: lg_sl ws := by
        have : ¬ w.category = 2 := by rw [hc, hv']; decide
        simp [lg_sl, this]
      rw [e2, hw]
      refine ⟨by simp [ih1], fun i u hu => ?_⟩
      cases i with
      | zero => simp at hu; subst hu; exact Or.inr ⟨w, by simp, r.1⟩
      | succ i => simp at hu ⊢; exact ih2 i u hu
    have h2 : ∀ v' : Value, v'.category = 2 → v' = v → eL1 (v :: as) = v :: un :: eL1 as → (lg_sl (w :: ws)).length = (eL1 (v :: as)).length ∧ ∀ (i : Nat) (u : Value), (eL1 (v :: as))[i]? = some u → u = un ∨ ∃ w' : Value, (lg_sl (w :: ws))[i]? = some (Slot.val w') ∧ VR ρ o u w' := by
      intro v' hv' e1 e2
      subst e1
      have hw : lg_sl (w :: ws) = .val w :: .second :: lg_sl ws := by
        have : w.category = 2 := by rw [hc, hv']
        simp [lg_sl, this]
      rw [e2, hw]
      refine ⟨by simp [ih1], fun i u hu => ?_⟩
      match i with
      | 0 => simp at hu; subst hu; exact Or.inr ⟨w, by simp, r.1⟩
      | 1 => simp at hu; exact Or.inl hu.symm
      | i + 2 => simp at hu ⊢; exact ih2 i u hu
    cases v with
    | long x => exact h2 _ rfl rfl rfl
    | double x => exact h2 _ rfl rfl rfl
    | int x => exact h1 _ rfl rfl rfl
    | float x => exact h1 _ rfl rfl rfl
    | null => exact h1 _ rfl rfl rfl
    | ref x => exact h1 _ rfl rfl rfl
    | retAddr x => exact h1 _ rfl rfl rfl
theorem LR.entry {ρ o : Nat → Option Nat} {k : Nat} {as ws : List Value} (r : SR ρ o as ws) (h : (eL1 as).length ≤ mmax k) :
    LR ρ o (eL k as) ((lg_sl ws ++ List.replicate (mmax k - (lg_sl ws).length) Slot.unset).toArray) (mmax k) := by
  obtain ⟨h1, h2⟩ := eL1_get r
  obtain ⟨e1, e2, -⟩ := lv_entry ws (n := mmax k) (by omega)
  refine ⟨e1, by simp only [eL, List.length_append, List.length_replicate]; omega, e2, fun i v hv => ?_⟩
  by_cases hi : i < (eL1 as).length
  · rw [eL, List.getElem?_append_left hi] at hv
    refine (h2 i v hv).imp id fun ⟨w, g1, g2⟩ => ⟨w, ?_, g2⟩
    rw [List.getElem?_toArray, List.getElem?_append_left (by omega)]
    exact g1
  · rw [eL, List.getElem?_append_right (by omega), List.getElem?_replicate] at hv
    split at hv
    · cases hv; exact Or.inl rfl
    · cases hv
section SND
variable {G : Gw} {p : Program} {l : Launch} {e : Env} {R : Room} {s : State} {m : MethodId} {args : Array Value} {below : List Frame} {meth : Method} {c : Code} {H : Heap} {locs : List Loc} {cells slots mc ms : Nat} {Q : State → Prop}
variable {k pc x y z u : Nat} {L st mst : List Value} {hs : HS} {ρ ρ0 : Nat → Option Nat} {ls : Array Slot} {r : Rs} {v : Option Value}
/-- a return -/
theorem ret_W (C : CX G l k p R s m meth c) (hR : RetAt G k pc v ρ mst) (hr : r = (.inl v, hs)) (hH : HR G ρ hs H) (hE : Ext ρ0 ρ) (hl : ∀ z ∈ locs, gB G ≤ z.base) :
    W p l e R s m args below meth c H locs cells slots (vx_MQ below (Mret G ρ0 r) (Mthr G ρ0 r) args s cells slots (gW G)) (F0 m pc ls mst) := by
  subst hr
  obtain ⟨g, t, hx, hb, hml, hown, hnm, hret, hlk, het, hfr, hlo, hlay⟩ := C
  have post : ∀ (w : Option Value), OV ρ (gO G) v w → ∀ t : State, t.heap = H → s.WarmedH t.vm → Mret G ρ0 (.inl v, hs) args s (.returned w) t := fun w hw t ht _ => ⟨ρ, v, w, rfl, rfl, hE, by rw [ht]; exact hH, hw⟩
  refine vx_ret ?_
  rcases hR with ⟨a, rfl, rfl, hd, hf⟩ | ⟨a, rfl, rfl, hd, hf⟩ | ⟨a, rfl, rfl, hd, hf⟩ | ⟨a, rfl, rfl, hd, hf⟩ | ⟨a, q, rfl, rfl, hq, hd, hf⟩ | ⟨rfl, rfl, hd, hf⟩ | ⟨rfl, rfl, hd, hf⟩
  · cases ht : mret k with
    | none => rw [ht] at hf; cases hf
    | some ty =>
      rw [ht] at hf hret
      obtain ⟨n1, -⟩ := fit_ok (ρ := ρ) (o := gO G) (v := .int a) (w := .int a) rfl hf
      exact W.zret hx hb hret n1 (post _ rfl) hl hd hlk
  · cases ht : mret k with
    | none => rw [ht] at hf; cases hf
    | some ty =>
      rw [ht] at hf hret
      have : ty = .long := by cases ty <;> first | rfl | cases hf
      subst this
      exact W.lret hx hb hret (post _ rfl) hl hd hlk
  · cases ht : mret k with
    | none => rw [ht] at hf; cases hf
    | some ty =>
      rw [ht] at hf hret
      have : ty = .float := by cases ty <;> first | rfl | cases hf
      subst this
      exact W.fret hx hb hret (post _ rfl) hl hd hlk
  · cases ht : mret k with
    | none => rw [ht] at hf; cases hf
    | some ty =>
      rw [ht] at hf hret
      have : ty = .double := by cases ty <;> first | rfl | cases hf
      subst this
      exact W.dret hx hb hret (post _ rfl) hl hd hlk
  · cases ht : mret k with
    | none => rw [ht] at hf; cases hf
    | some ty =>
      rw [ht] at hf hret
      have hty : (∃ n, ty = .object n) ∨ ∃ t, ty = .array t := by
        cases ty <;> first | exact Or.inl ⟨_, rfl⟩ | exact Or.inr ⟨_, rfl⟩ | cases hf
      exact W.aret hx hb hret hty (Or.inr ⟨q, rfl⟩) (post _ ⟨q, hq, rfl⟩) hl hd hlk
  · cases ht : mret k with
    | none => rw [ht] at hf; cases hf
    | some ty =>
      rw [ht] at hf hret
      have hty : (∃ n, ty = .object n) ∨ ∃ t, ty = .array t := by
        cases ty <;> first | exact Or.inl ⟨_, rfl⟩ | exact Or.inr ⟨_, rfl⟩ | cases hf
      exact W.aret hx hb hret hty (Or.inl rfl) (post _ rfl) hl hd hlk
  · exact W.vret hx hb (by rw [hret, hf]) (post _ trivial) hl hd hlk
/-- what is known of the heap at the method's entry -/
def EH (G : Gw) (H0 : Heap) : Prop := gB G ≤ H0.size ∧ ∀ q, q < gB G → H0[q]? = (gS G).heap[q]?
/-- a throw -/
theorem thr_W {e' : Nat} (C : CX G l k p R s m meth c) (hE0 : EH G s.heap) (hv : chkV k = true) (hT : ThrAt k pc e' st) (hr : r = (.inr e', hsx hs)) (hH : HR G ρ hs H) (hE : Ext ρ0 ρ) (hL : LR ρ (gO G) L ls (mmax k)) (hS : SR ρ (gO G) st mst) (hl : ∀ z ∈ locs, gB G ≤ z.base) (hc : cells + 1 ≤ R.cells) (hs' : slots + 6 ≤ R.slots) :
    W p l e R s m args below meth c H locs cells slots (vx_MQ below (Mret G ρ0 r) (Mthr G ρ0 r) args s (cells + 1) (slots + 6) (gW G)) (F0 m pc ls mst) := by
  subst hr
  obtain ⟨g, t, hx, hb, hml, hown, hnm, hret, hlk, het, hfr, hlo, hlay⟩ := C
  obtain ⟨j, y, z, u, hm, hw, hd, he6, hst⟩ := hT
  have hpc : pc < mtop k := by
    unfold mcode at hm
    cases h : Nat.blt pc (mtop k) with
    | true => rw [Nat.blt_eq] at h; exact h
    | false => rw [h] at hm; cases hm
  have hv1 := List.all_eq_true.mp hv pc (List.mem_range.mpr hpc)
  rw [hm] at hv1
  dsimp only at hv1
  have hlt : Nat.blt (1000 + e') 7 = false := by rw [← Bool.not_eq_true, Nat.blt_eq]; omega
  rw [hlt, Bool.false_or, Bool.and_eq_true, decide_eq_true_eq, Nat.add_sub_cancel_left] at hv1
  obtain ⟨ho, hic⟩ := hv1
  have hic := Nat.eq_of_beq_eq_true hic
  simp only [chkR, hlt, cond_false, Bool.and_eq_true, decide_eq_true_eq, Nat.add_sub_cancel_left] at hw
  obtain ⟨⟨⟨⟨⟨⟨-, -⟩, hcl⟩, hhh⟩, hd3⟩, hrest⟩, hstr⟩ := hw
  have hout : ∀ x ∈ c.exceptionTable.toList, ∀ q, covers x q = false := by
    intro x hx0
    rw [het, hhh] at hx0
    cases hx0
  have hstr' : ∃ tx sa, vk_R (mown k) (y % 100000) tx sa s := by
    split at hstr
    · next own j2 tx hq =>
      rw [Bool.and_eq_true, decide_eq_true_eq, decide_eq_true_eq] at hstr
      obtain ⟨sa, h1⟩ := g.2.2.2.2.2.2.1 own j2 tx (List.mem_of_getElem? hq)
      rw [hstr.1, hstr.2] at h1
      exact ⟨tx, sa, vk_R.warm t h1⟩
    · cases hstr
  obtain ⟨tx, sa, hsr⟩ := hstr'
  have hkp : ∀ {C n d : String}, vx_Zq C n d (gW G) (gS G) (gS G).heap → vx_Zq C n d (gW G) s s.heap := fun h => vx_Zq.moved t.alike (h.kept fun a _ hn => hE0.2 a (Nat.lt_of_not_le hn))
  have hatw : ∀ w ∈ Cond.initialized (eN e') :: vx_atS "SingleTrackLine" (icE e') (eN e') xnm, w.before args s = true := fun w hw => vx_ot_at0 t (atS_in he6 hw).2 (g.1 w (atS_in he6 hw).1)
  have hx0 : ∀ t : State, s.vm.Alike t.vm → H.size ≤ t.heap.size → (∀ q : Nat, q < H.size → t.heap[q]? = H[q]?) → Mthr G ρ0 (.inr e', hsx hs) (eN e') s t := fun t _ h1 h2 => ⟨ρ, e', rfl, he6, rfl, hE, hH.more h1 h2⟩
  have hsum : (mst.map fun v => v.category).sum ≤ 8 := by have := hS.sum; omega
  intro T hTh X
  have hsz := (vx_frame X.same).1
  have hSa : va_S (gW G) s.heap H locs := ⟨by rw [← hTh]; exact hsz, fun q _ hn => by rw [hH.2.2.2.2.1.2 q (Nat.lt_of_not_le hn)]; exact (hE0.2 q (Nat.lt_of_not_le hn)).symm, hl⟩
  revert T
  show W p l e R s m args below meth c H locs cells slots _ (F0 m pc ls mst)
  sorry
end SND
