/-! the world's constants: the law's first state, its arguments, the addresses of what was there, opaque statics, numbers of classes, slots, array classes, the pure heap of what was there -/
abbrev Gw : Type := State × Array Value × (Nat → Nat) × (Nat → Option Nat) × (Nat → ClassId) × (Nat → Nat → Nat) × (Nat → ClassId) × PH
def gS (G : Gw) : State := G.1
def gA (G : Gw) : Array Value := G.2.1
def gC (G : Gw) : Nat → Nat := G.2.2.1
def gO (G : Gw) : Nat → Option Nat := G.2.2.2.1
def gD (G : Gw) : Nat → ClassId := G.2.2.2.2.1
def gI (G : Gw) : Nat → Nat → Nat := G.2.2.2.2.2.1
def gK (G : Gw) : Nat → ClassId := G.2.2.2.2.2.2.1
def gH (G : Gw) : PH := G.2.2.2.2.2.2.2
def gB (G : Gw) : Nat := (gS G).heap.size
def gW (G : Gw) : Nat → Prop := fun q => gB G ≤ q
def rho0 (G : Gw) : Nat → Option Nat := fun a => if a < N0 then some (gC G a) else none
def aty (c : Nat) : FieldType := match c with
  | 100 => .int
  | 101 => .char
  | 102 => .byte
  | 103 => .long
  | 104 => .double
  | 105 => .object "SingleTrackLine$Train"
  | 106 => .object "SingleTrackLine$Line"
  | _ => .object "SingleTrackLine$Command"
/-- what holds of the constants: arrays; objects with known fields -/
def CFa (G : Gw) (a c : Nat) (vs : List Value) : Prop := ∃ cell : Cell, (gS G).heap[gC G a]? = some cell ∧ (gS G).isArrayOf cell (aty c) ∧ cell.vm ≠ .unknown ∧ vs.length ≤ cell.slots.size ∧ cell.slots.size.toInt32 = Int32.ofNat vs.length ∧ ∀ (j : Nat) (v : Value), vs[j]? = some v → ∃ w : Value, cell.slots[j]? = some w ∧ VR (rho0 G) (gO G) v w
def CFo (G : Gw) (a c : Nat) (vs : List Value) : Prop := (∃ cell : Cell, (gS G).heap[gC G a]? = some cell ∧ cell.vm.isStatics = false ∧ (gS G).vm.findClass (cN c) = some cell.cls) ∧
  ∀ (k : Nat) (v : Value), vs[k]? = some v → k < fN c → ∃ (cf : ClassId) (kk : Class) (i : Nat) (f : Field) (cell : Cell) (w : Value), (gS G).fieldFound? (fT c k).1 (fT c k).2.1 (fT c k).2.2.1 = some (cf, kk, i, f) ∧ f.isStatic = false ∧ (gS G).heap[gC G a]? = some cell ∧ cell.vm ≠ .unknown ∧ cell.slots[f.slot]? = some w ∧ VR (rho0 G) (gO G) v w
def GX (G : Gw) (l : Launch) : Prop :=
  (∀ w ∈ lw_W, w.before (gA G) (gS G) = true) ∧
  va_K (gD G, gI G) clsL [] (gS G) ∧
  (∀ kd, 100 ≤ kd → kd < 107 → (gS G).vm.findClass ("[" ++ (aty kd).toString) = some (gK G kd) ∧ ArrOfT (gS G) (gK G kd) (aty kd) ∧ va_RA (gS G) (gK G kd) (aty kd)) ∧
  (∀ a c vs, a < N0 → gH G a = some (c, vs) → gC G a < gB G ∧ ((100 ≤ c ∧ c < 108 ∧ CFa G a c vs) ∨ ((c = 7 ∨ c = 8) ∧ CFo G a c vs) ∨ c = 9)) ∧
  (∀ i, i < 17 → ∃ w, VR (rho0 G) (gO G) (sV i) w ∧ va_Z (sT i).1 (sT i).2.1 (sT i).2.2 w (gW G) (gS G) (gS G).heap) ∧
  (l.stackTraces = false ∧ vx_Zq Bundle.tN "UNASSIGNED_STACK" Bundle.steD (gW G) (gS G) (gS G).heap ∧ vx_Zq Bundle.tN "SUPPRESSED_SENTINEL" Bundle.listD (gW G) (gS G) (gS G).heap) ∧
  (∀ own k tx, Cond.stringRef own k tx ∈ lw_W → ∃ a, vk_R own k tx a (gS G)) ∧
  (∀ e e', e < 6 → e' < 6 → e ≠ e' → va_Nc (eN e) (eN e') (gS G)) ∧
  (∀ a b, 1 ≤ a → a ≤ 4 → 1 ≤ b → b ≤ 4 → gC G a = gC G b → a = b) ∧
  (∀ a, 1 ≤ a → a ≤ 4 → gC G a < gB G)
/-- an object of the program's, at the machine's address q -/
def OR (G : Gw) (ρ : Nat → Option Nat) (q : Nat) (H : Heap) (c : Nat) (vs : List Value) : Prop := ∃ cell : Cell, H[q]? = some cell ∧ cell.vm = .none ∧
  ((c < 7 ∧ cell.cls = gD G c ∧ vs.length = fN c ∧ ∀ (k : Nat) (v : Value), vs[k]? = some v → ∃ w : Value, cell.slots[gI G c k]? = some w ∧ VR ρ (gO G) v w) ∨
   (100 ≤ c ∧ c < 107 ∧ (∃ f : Nat → Value, cell = arrV (gK G c) vs.length f ∧ ∀ (j : Nat) (v : Value), vs[j]? = some v → VR ρ (gO G) v (f j)) ∧
     (c = 100 → ∀ v ∈ vs, fitp 0 v = true) ∧ (c = 102 → ∀ v ∈ vs, fitp 2 v = true)))
def HR (G : Gw) (ρ : Nat → Option Nat) (hs : HS) (H : Heap) : Prop :=
  (∀ a, a < N0 → hs.1 a = gH G a ∧ ρ a = some (gC G a)) ∧
  (∀ a c vs, N0 ≤ a → hs.1 a = some (c, vs) → ∃ q, ρ a = some q ∧ OR G ρ q H c vs) ∧
  (∀ a q, N0 ≤ a → ρ a = some q → gB G ≤ q ∧ q < H.size ∧ a < hs.2.1) ∧
  (∀ a b q, N0 ≤ a → N0 ≤ b → ρ a = some q → ρ b = some q → a = b) ∧
  (gB G ≤ H.size ∧ ∀ q, q < gB G → H[q]? = (gS G).heap[q]?) ∧
  N0 ≤ hs.2.1
/-- what holds of the tables all along -/
def GT (G : Gw) (U : State) : Prop := (gS G).WarmedH U.vm
section HRS
variable {G : Gw} {l : Launch} {ρ : Nat → Option Nat} {hs : HS} {H H' : Heap} {s : State}
theorem OR.keep {q : Nat} {c : Nat} {vs : List Value} (h : OR G ρ q H c vs) (e : H'[q]? = H[q]?) : OR G ρ q H' c vs := by
  obtain ⟨cell, h1, h2⟩ := h
  exact ⟨cell, by rw [e]; exact h1, h2⟩
theorem OR.mono {ρ' : Nat → Option Nat} {q : Nat} {c : Nat} {vs : List Value} (h : OR G ρ q H c vs) (e : Ext ρ ρ') : OR G ρ' q H c vs := by
  obtain ⟨cell, h1, h2, h3⟩ := h
  refine ⟨cell, h1, h2, ?_⟩
  rcases h3 with ⟨a1, a2, a3, a4⟩ | ⟨a1, a2, ⟨f, a3, a4⟩, a5⟩
  · exact Or.inl ⟨a1, a2, a3, fun k v hk => by obtain ⟨w, g1, g2⟩ := a4 k v hk; exact ⟨w, g1, g2.mono e⟩⟩
  · exact Or.inr ⟨a1, a2, ⟨f, a3, fun j v hj => (a4 j v hj).mono e⟩, a5⟩
theorem HR.ext0 (h : HR G ρ hs H) : Ext (rho0 G) ρ := by
  intro a q e
  unfold rho0 at e
  split at e
  · next ha => cases e; exact (h.1 a ha).2
  · cases e
theorem HR.q (h : HR G ρ hs H) {a q : Nat} (ha : N0 ≤ a) (e : ρ a = some q) : gB G ≤ q ∧ q < H.size := ⟨(h.2.2.1 a q ha e).1, (h.2.2.1 a q ha e).2.1⟩
/-- an object changed in place -/
theorem HR.upd (h : HR G ρ hs H) {a q c : Nat} {vs : List Value} (ha : N0 ≤ a) (e : ρ a = some q) (hO : OR G ρ q H' c vs) (hz : H'.size = H.size) (ho : ∀ x, x ≠ q → H'[x]? = H[x]?) : HR G ρ (hsu hs a (c, vs)) H' := by
  obtain ⟨h1, h2, h3, h4, h5, h6⟩ := h
  have hq := h3 a q ha e
  refine ⟨fun b hb => ?_, fun b c' vs' hb e' => ?_, fun b q' hb e' => ?_, h4, ⟨by rw [hz]; exact h5.1, fun x hx => ?_⟩, h6⟩
  · have : b ≠ a := by unfold N0 at hb ha; omega
    simp only [hsu, pu, if_neg this]
    exact h1 b hb
  · simp only [hsu, pu] at e'
    split at e'
    · next hba => cases e'; subst hba; exact ⟨q, e, hO⟩
    · next hba =>
      obtain ⟨q', g1, g2⟩ := h2 b c' vs' hb e'
      exact ⟨q', g1, g2.keep (ho q' (fun z => hba (h4 b a q hb ha (by rw [← z]; exact g1) e)))⟩
  · obtain ⟨g1, g2, g3⟩ := h3 b q' hb e'
    exact ⟨g1, by rw [hz]; exact g2, g3⟩
  · rw [ho x (fun z => by omega)]
    exact h5.2 x hx
theorem Ext.nw {a q : Nat} (h : ρ a = none) : Ext ρ (fun b => if b = a then some q else ρ b) := by
  intro b x e
  dsimp only
  split
  · next z => rw [z, h] at e; cases e
  · exact e
theorem HR.nx0 (h : HR G ρ hs H) {a : Nat} (ha : hs.2.1 ≤ a) : ρ a = none := by
  cases e : ρ a with
  | none => rfl
  | some q =>
    have := (h.2.2.1 a q (Nat.le_trans h.2.2.2.2.2 ha) e).2.2
    omega
/-- a new object -/
theorem HR.new (h : HR G ρ hs H) {c n : Nat} {vs : List Value} (hO : OR G (fun b => if b = hs.2.1 then some H.size else ρ b) H.size H' c vs) (hz : H'.size = H.size + 1) (ho : ∀ x, x < H.size → H'[x]? = H[x]?) :
    HR G (fun b => if b = hs.2.1 then some H.size else ρ b) (hsn hs (c, vs) n) H' := by
  have hn := h.nx0 (Nat.le_refl hs.2.1)
  have hE := Ext.nw (q := H.size) hn
  obtain ⟨h1, h2, h3, h4, h5, h6⟩ := h
  refine ⟨fun b hb => ?_, fun b c' vs' hb e' => ?_, fun b q' hb e' => ?_, fun b b' q' hb hb' e e' => ?_, ⟨by omega, fun x hx => ?_⟩, by simp only [hsn]; omega⟩
  · have : b ≠ hs.2.1 := by unfold N0 at hb h6; omega
    simp only [hsn, pu, if_neg this]
    exact h1 b hb
  · simp only [hsn, pu] at e'
    split at e'
    · next hba => cases e'; subst hba; exact ⟨H.size, by simp, hO⟩
    · next hba =>
      obtain ⟨q', g1, g2⟩ := h2 b c' vs' hb e'
      refine ⟨q', hE _ _ g1, (g2.keep (ho q' (h3 b q' hb g1).2.1)).mono hE⟩
  · dsimp only at e'
    split at e'
    · next z => cases e'; exact ⟨h5.1, by omega, by simp only [hsn]; omega⟩
    · obtain ⟨g1, g2, g3⟩ := h3 b q' hb e'
      exact ⟨g1, by omega, by simp only [hsn]; omega⟩
  · dsimp only at e e'
    split at e
    · next z =>
      cases e
      split at e'
      · next z' => rw [z, z']
      · have := (h3 b' _ hb' e').2.1; omega
    · split at e'
      · cases e'
        have := (h3 b _ hb e).2.1; omega
      · exact h4 b b' q' hb hb' e e'
  · rw [ho x (by omega)]
    exact h5.2 x hx
/-- more cells, nothing else -/
theorem HR.more (h : HR G ρ hs H) (hz : H.size ≤ H'.size) (ho : ∀ x, x < H.size → H'[x]? = H[x]?) {c n : Nat} : HR G ρ (hs.1, hs.2.1, c, n) H' := by
  obtain ⟨h1, h2, h3, h4, h5, h6⟩ := h
  refine ⟨h1, fun b c' vs' hb e' => ?_, fun b q' hb e' => ?_, h4, ⟨by omega, fun x hx => ?_⟩, h6⟩
  · obtain ⟨q', g1, g2⟩ := h2 b c' vs' hb e'
    exact ⟨q', g1, g2.keep (ho q' (h3 b q' hb g1).2.1)⟩
  · obtain ⟨g1, g2, g3⟩ := h3 b q' hb e'
    exact ⟨g1, by omega, g3⟩
  · rw [ho x (by omega)]
    exact h5.2 x hx
theorem GT.word (g : GX G l) (t : GT G s) {w : Cond} (h : w ∈ lw_W ∧ goodWord w = true) (args : Array Value) : w.before args s = true := word_at t (good_of_word h.2) (g.1 w h.1)
/-- an array read -/
theorem HR.arr (g : GX G l) (t : GT G s) (h : HR G ρ hs H) {a c : Nat} {vs : List Value} (e : hs.1 a = some (c, vs)) (hc1 : 100 ≤ c) (hc2 : c < 108) :
    ∃ q cell, ρ a = some q ∧ H[q]? = some cell ∧ s.isArrayOf cell (aty c) ∧ cell.vm ≠ .unknown ∧ vs.length ≤ cell.slots.size ∧ cell.slots.size.toInt32 = Int32.ofNat vs.length ∧ ∀ (j : Nat) (v : Value), vs[j]? = some v → ∃ w : Value, cell.slots[j]? = some w ∧ VR ρ (gO G) v w := by
  by_cases ha : a < N0
  · obtain ⟨e1, e2⟩ := h.1 a ha
    rw [e1] at e
    obtain ⟨hlt, hx⟩ := g.2.2.2.1 a c vs ha e
    rcases hx with ⟨-, -, cell, k1, k2, k3, k4, k5, k6⟩ | ⟨z, -⟩ | z
    · refine ⟨gC G a, cell, e2, by rw [h.2.2.2.2.1.2 _ hlt]; exact k1, State.isArrayOf_alike t.alike k2, k3, k4, k5, fun j v hj => ?_⟩
      obtain ⟨w, w1, w2⟩ := k6 j v hj
      exact ⟨w, w1, w2.mono h.ext0⟩
    · omega
    · omega
  · obtain ⟨q, e1, cell, k1, k2, k3⟩ := h.2.1 a c vs (Nat.le_of_not_lt ha) e
    rcases k3 with ⟨z, -⟩ | ⟨z1, z2, ⟨f, rfl, z4⟩, -⟩
    · omega
    · refine ⟨q, _, e1, k1, State.isArrayOf_alike t.alike ((g.2.2.1 c z1 z2).2.1 _ _), (by rw [k2]; exact fun z => nomatch z), Nat.le_of_eq (arrV_size _ _ _).symm, congrArg Nat.toInt32 (arrV_size _ _ _), fun j v hj => ⟨f j, arrV_read _ _ (List.getElem?_eq_some_iff.mp hj).1, z4 j v hj⟩⟩
theorem clsL_at {c : Nat} (h : c < 7) : ∃ T, clsL[c]? = some (cN c, T, fN c) ∧ T = fT c := by
  have : c = 0 ∨ c = 1 ∨ c = 2 ∨ c = 3 ∨ c = 4 ∨ c = 5 ∨ c = 6 := by omega
  rcases this with rfl | rfl | rfl | rfl | rfl | rfl | rfl <;> exact ⟨_, rfl, rfl⟩
/-- the receiver of a call -/
theorem HR.recv (g : GX G l) (t : GT G s) (h : HR G ρ hs H) {a c : Nat} {vs : List Value} (e : hs.1 a = some (c, vs)) (hc : c < 9) :
    ∃ q cell, ρ a = some q ∧ H[q]? = some cell ∧ cell.vm.isStatics = false ∧ s.vm.findClass (cN c) = some cell.cls := by
  by_cases ha : a < N0
  · obtain ⟨e1, e2⟩ := h.1 a ha
    rw [e1] at e
    obtain ⟨hlt, hx⟩ := g.2.2.2.1 a c vs ha e
    rcases hx with ⟨z, -⟩ | ⟨-, ⟨cell, k1, k2, k3⟩, -⟩ | z
    · omega
    · exact ⟨gC G a, cell, e2, by rw [h.2.2.2.2.1.2 _ hlt]; exact k1, k2, by rw [← k3]; exact t.alike.findClass _ _⟩
    · omega
  · obtain ⟨q, e1, cell, k1, k2, k3⟩ := h.2.1 a c vs (Nat.le_of_not_lt ha) e
    rcases k3 with ⟨z1, z2, -⟩ | ⟨z1, -⟩
    · refine ⟨q, cell, e1, k1, by rw [k2]; rfl, ?_⟩
      obtain ⟨T, hT, -⟩ := clsL_at z1
      have hk := (g.2.1.1 c _ hT).2.1
      rw [z2, ← hk]
      exact t.alike.findClass _ _
    · omega
theorem lay_in {c k : Nat} (hk : k < fN c) (hc : c < 7) : u_lay (cN c) (fT c) k ∈ u_ws (cN c) (fT c) (fN c) := u_in_lay hk
/-- a field read -/
theorem HR.fld (g : GX G l) (t : GT G s) (hlay : ∀ c, c < 7 → ∀ w ∈ u_ws (cN c) (fT c) (fN c), w ∈ lw_W ∧ goodWord w = true) (h : HR G ρ hs H) {a c k : Nat} {vs : List Value} {v : Value} (e : hs.1 a = some (c, vs)) (hc : c < 9) (hk : k < fN c) (hv : vs[k]? = some v) :
    ∃ (q : Nat) (cell : Cell) (w : Value) (cf : ClassId) (kk : Class) (i : Nat) (f : Field), ρ a = some q ∧ s.fieldFound? (fT c k).1 (fT c k).2.1 (fT c k).2.2.1 = some (cf, kk, i, f) ∧ f.isStatic = false ∧ H[q]? = some cell ∧ cell.vm ≠ .unknown ∧ cell.slots[f.slot]? = some w ∧ VR ρ (gO G) v w := by
  by_cases ha : a < N0
  · obtain ⟨e1, e2⟩ := h.1 a ha
    rw [e1] at e
    obtain ⟨hlt, hx⟩ := g.2.2.2.1 a c vs ha e
    rcases hx with ⟨z, -⟩ | ⟨-, -, kf⟩ | z
    · omega
    · obtain ⟨cf, kk, i, f, cell, w, k1, k2, k3, k4, k5, k6⟩ := kf k v hv hk
      obtain ⟨kk', k1', -⟩ := State.fieldFound?_setVm t.alike k1
      have k1' : s.fieldFound? (fT c k).1 (fT c k).2.1 (fT c k).2.2.1 = some (cf, kk', i, f) := by simpa only [State.fieldFound?, State.vm_setVm] using k1'
      exact ⟨gC G a, cell, w, cf, kk', i, f, e2, k1', k2, by rw [h.2.2.2.2.1.2 _ hlt]; exact k3, k4, k5, k6.mono h.ext0⟩
    · omega
  · obtain ⟨q, e1, cell, k1, k2, k3⟩ := h.2.1 a c vs (Nat.le_of_not_lt ha) e
    rcases k3 with ⟨z1, z2, z3, z4⟩ | ⟨z1, -⟩
    · obtain ⟨T, hT, rfl⟩ := clsL_at z1
      obtain ⟨hS, hfc, kC, hkC, hkind⟩ := u_Kn_moved t.alike (g.2.1.1 c _ hT)
      obtain ⟨cf, kf, fi, f, hi, hsl⟩ := hS k hk
      obtain ⟨w, w1, w2⟩ := z4 k v hv
      have hts : ∀ w ∈ u_ws (cN c) (fT c) (fN c), w.before (gA G) s = true := fun w hw => t.word g (hlay c z1 w hw) _
      have hin : ∀ w ∈ u_ws (cN c) (fT c) (fN c), w ∈ u_ws (cN c) (fT c) (fN c) := fun _ h => h
      exact ⟨q, cell, w, cf, kf, fi, f, e1, hi, (u_facts hfc hkC (u_lays hts hin hk) hi).1, k1, (by rw [k2]; exact fun z => nomatch z), by rw [hsl]; exact w1, w2⟩
    · omega
end HRS
