/-! THE TWO MACHINES SIDE BY SIDE: values, stacks, locals, heaps. -/
def VR (ρ : Nat → Option Nat) (o : Nat → Option Nat) (v w : Value) : Prop := match v with
  | .ref a => ∃ q, ρ a = some q ∧ w = .ref q
  | .retAddr 0 => False
  | .retAddr 9 => ∃ q, w = .ref q
  | .retAddr n => w = va_rf (o n)
  | v => w = v
def SR (ρ : Nat → Option Nat) (o : Nat → Option Nat) : List Value → List Value → Prop
  | [], [] => True
  | v :: st, w :: ms => VR ρ o v w ∧ SR ρ o st ms
  | _, _ => False
def LR (ρ : Nat → Option Nat) (o : Nat → Option Nat) (L : List Value) (ls : Array Slot) (nL : Nat) : Prop :=
  ls.size = nL ∧ L.length = nL ∧ lv_wf ls ∧ ∀ (i : Nat) (v : Value), L[i]? = some v → v = un ∨ ∃ w : Value, ls[i]? = some (Slot.val w) ∧ VR ρ o v w
def Ext (ρ ρ' : Nat → Option Nat) : Prop := ∀ a q, ρ a = some q → ρ' a = some q
theorem Ext.rf {ρ : Nat → Option Nat} : Ext ρ ρ := fun _ _ h => h
theorem Ext.tr {ρ ρ' ρ'' : Nat → Option Nat} (h : Ext ρ ρ') (h' : Ext ρ' ρ'') : Ext ρ ρ'' := fun a q e => h' a q (h a q e)
section VRS
variable {ρ ρ' o : Nat → Option Nat}
theorem VR.mono (h : Ext ρ ρ') {v w : Value} (r : VR ρ o v w) : VR ρ' o v w := by
  unfold VR at r ⊢
  split at r
  · obtain ⟨q, h1, h2⟩ := r
    exact ⟨q, h _ _ h1, h2⟩
  · exact r
  · exact r
  · first | exact r | (split <;> first | exact r | contradiction)
  · first | exact r | (split <;> first | exact r | contradiction)
theorem VR.int {x : Int32} {w : Value} (r : VR ρ o (.int x) w) : w = .int x := r
theorem VR.long {x : Int64} {w : Value} (r : VR ρ o (.long x) w) : w = .long x := r
theorem VR.float {x : UInt32} {w : Value} (r : VR ρ o (.float x) w) : w = .float x := r
theorem VR.double {x : UInt64} {w : Value} (r : VR ρ o (.double x) w) : w = .double x := r
theorem VR.null {w : Value} (r : VR ρ o .null w) : w = .null := r
theorem VR.ref {a : Nat} {w : Value} (r : VR ρ o (.ref a) w) : ∃ q, ρ a = some q ∧ w = .ref q := r
theorem va_rf_cat (r : Option Nat) : (va_rf r).category = 1 := by cases r <;> rfl
theorem VR.cat {v w : Value} (r : VR ρ o v w) : w.category = v.category := by
  cases v with
  | int x => rw [r.int]
  | long x => rw [r.long]
  | float x => rw [r.float]
  | double x => rw [r.double]
  | null => rw [r.null]
  | ref a => obtain ⟨q, -, rfl⟩ := r.ref; rfl
  | retAddr n =>
    unfold VR at r
    split at r
    · contradiction
    · contradiction
    · obtain ⟨q, rfl⟩ := r; rfl
    · rw [r]; exact va_rf_cat _
    · next h1 h2 h3 => exact absurd rfl (h3 n)
theorem VR.ne_un {v w : Value} (r : VR ρ o v w) : v ≠ un := by
  rintro rfl
  exact r
theorem SR.mono (h : Ext ρ ρ') : ∀ {st ms : List Value}, SR ρ o st ms → SR ρ' o st ms
  | [], [], _ => trivial
  | _ :: _, _ :: _, r => ⟨r.1.mono h, SR.mono h r.2⟩
theorem SR.cons {v : Value} {st ms : List Value} (r : SR ρ o (v :: st) ms) : ∃ w ms', ms = w :: ms' ∧ VR ρ o v w ∧ SR ρ o st ms' := by
  cases ms with
  | nil => exact r.elim
  | cons w ms => exact ⟨w, ms, rfl, r.1, r.2⟩
theorem SR.nil {ms : List Value} (r : SR ρ o [] ms) : ms = [] := by
  cases ms with
  | nil => rfl
  | cons w ms => exact r.elim
theorem SR.len : ∀ {st ms : List Value}, SR ρ o st ms → ms.length = st.length
  | [], [], _ => rfl
  | _ :: _, _ :: _, r => by simp [SR.len r.2]
theorem SR.sum : ∀ {st ms : List Value}, SR ρ o st ms → (ms.map fun v => v.category).sum ≤ 2 * st.length
  | [], [], _ => Nat.le_refl _
  | v :: st, w :: ms, r => by
    have h1 := SR.sum r.2
    have h2 := lv_cat w
    simp only [List.map_cons, List.sum_cons, List.length_cons]
    omega
theorem SR.app : ∀ {st ms st' ms' : List Value}, SR ρ o st ms → SR ρ o st' ms' → SR ρ o (st ++ st') (ms ++ ms')
  | [], [], _, _, _, r' => r'
  | _ :: _, _ :: _, _, _, r, r' => ⟨r.1, SR.app r.2 r'⟩
theorem SR.take (n : Nat) : ∀ {st ms : List Value}, SR ρ o st ms → SR ρ o (st.take n) (ms.take n) := by
  induction n with
  | zero => intro st ms _; simp [SR]
  | succ n ih =>
    intro st ms r
    cases st with
    | nil => rw [r.nil]; trivial
    | cons v st =>
      obtain ⟨w, ms, rfl, h1, h2⟩ := r.cons
      exact ⟨h1, ih h2⟩
theorem SR.drop (n : Nat) : ∀ {st ms : List Value}, SR ρ o st ms → SR ρ o (st.drop n) (ms.drop n) := by
  induction n with
  | zero => intro st ms r; simpa using r
  | succ n ih =>
    intro st ms r
    cases st with
    | nil => rw [r.nil]; trivial
    | cons v st =>
      obtain ⟨w, ms, rfl, h1, h2⟩ := r.cons
      exact ih h2
theorem SR.rev : ∀ {st ms : List Value}, SR ρ o st ms → SR ρ o st.reverse ms.reverse
  | [], [], _ => trivial
  | v :: st, w :: ms, r => by
    rw [List.reverse_cons, List.reverse_cons]
    exact SR.app (SR.rev r.2) ⟨r.1, trivial⟩
theorem LR.mono (h : Ext ρ ρ') {L : List Value} {ls : Array Slot} {nL : Nat} (r : LR ρ o L ls nL) : LR ρ' o L ls nL :=
  ⟨r.1, r.2.1, r.2.2.1, fun i v e => (r.2.2.2 i v e).imp id fun ⟨w, h1, h2⟩ => ⟨w, h1, h2.mono h⟩⟩
theorem LR.at {L : List Value} {ls : Array Slot} {nL : Nat} (r : LR ρ o L ls nL) {i : Nat} {v : Value} (e : L[i]? = some v) (hv : v ≠ un) : ∃ w : Value, ls[i]? = some (Slot.val w) ∧ VR ρ o v w := (r.2.2.2 i v e).resolve_left hv
theorem lst_len : ∀ (L : List Value) (i : Nat) (v : Value), (lst L i v).length = L.length
  | [], _, _ => rfl
  | _ :: _, 0, _ => rfl
  | _ :: [], 1, _ => rfl
  | _ :: _ :: _, 1, _ => rfl
  | _ :: L, i + 2, v => by simp [lst, lst_len L (i + 1) v]
theorem lst_get : ∀ (L : List Value) (i : Nat) (v : Value) (j : Nat) (u : Value), (lst L i v)[j]? = some u → (j = i ∧ u = v) ∨ (j + 1 = i ∧ ∃ t, L[j]? = some t ∧ u = kl t) ∨ (j ≠ i ∧ j + 1 ≠ i ∧ L[j]? = some u)
  | [], i, v, j, u, h => by simp [lst] at h
  | a :: L, 0, v, j, u, h => by
    cases j with
    | zero => simp [lst] at h; exact Or.inl ⟨rfl, h.symm⟩
    | succ j => simp [lst] at h; exact Or.inr (Or.inr ⟨by omega, by omega, by simpa using h⟩)
  | [a], 1, v, j, u, h => by
    cases j with
    | zero => simp [lst] at h; exact Or.inr (Or.inl ⟨rfl, a, by simp, h.symm⟩)
    | succ j => simp [lst] at h
  | a :: b :: L, 1, v, j, u, h => by
    cases j with
    | zero => simp [lst] at h; exact Or.inr (Or.inl ⟨rfl, a, by simp, h.symm⟩)
    | succ j =>
      cases j with
      | zero => simp [lst] at h; exact Or.inl ⟨rfl, h.symm⟩
      | succ j => simp [lst] at h; exact Or.inr (Or.inr ⟨by omega, by omega, by simpa using h⟩)
  | a :: L, i + 2, v, j, u, h => by
    cases j with
    | zero => simp [lst] at h; exact Or.inr (Or.inr ⟨by omega, by omega, by simp [h]⟩)
    | succ j =>
      have h' : (lst L (i + 1) v)[j]? = some u := by simpa [lst] using h
      rcases lst_get L (i + 1) v j u h' with ⟨h1, h2⟩ | ⟨h1, t, h2, h3⟩ | ⟨h1, h2, h3⟩
      · exact Or.inl ⟨by omega, h2⟩
      · exact Or.inr (Or.inl ⟨by omega, t, by simpa using h2, h3⟩)
      · exact Or.inr (Or.inr ⟨by omega, by omega, by simpa using h3⟩)
theorem kl_cases (t : Value) : kl t = un ∨ (kl t = t ∧ t.category = 1) := by cases t <;> simp [kl, Value.category]
/-- one slot stored -/
theorem LR.store {L : List Value} {ls : Array Slot} {nL i : Nat} {v w : Value} (r : LR ρ o L ls nL) (hi : i < L.length) (hc : w.category = 1) (hv : VR ρ o v w) :
    ∃ ls', storeLocals ls i w = some ls' ∧ LR ρ o (lst L i v) ls' nL := by
  obtain ⟨r1, r2, r3, r4⟩ := r
  have base : ∀ l : List (Nat × Value), (∀ q ∈ l, ls[q.1]? = some (Slot.val q.2)) → ∃ ls', storeLocals ls i w = some ls' ∧ lv_has ls' nL ((i, w) :: l.filter (fun q => !(q.1 == i) && !(q.1 + 1 == i && q.2.category == 2))) :=
    fun l hl => lv_store1 (l := l) ⟨r1, r3, hl⟩ (by omega) hc
  obtain ⟨ls', e1, e2⟩ := base [] (fun q h => by cases h)
  refine ⟨ls', e1, e2.1, by rw [lst_len]; exact r2, e2.2.1, fun j u hj => ?_⟩
  rcases lst_get L i v j u hj with ⟨rfl, rfl⟩ | ⟨h1, t, h2, rfl⟩ | ⟨h1, h2, h3⟩
  · exact Or.inr ⟨w, e2.2.2 (j, w) List.mem_cons_self, hv⟩
  · rcases kl_cases t with h3 | ⟨h3, h4⟩
    · exact Or.inl h3
    · rw [h3]
      refine (r4 j t h2).imp id fun ⟨w', g1, g2⟩ => ⟨w', ?_, g2⟩
      obtain ⟨ls2, f1, f2⟩ := base [(j, w')] (fun q h => by rw [List.mem_singleton.mp h]; exact g1)
      rw [e1] at f1
      cases f1
      have hc2 : ¬ w'.category = 2 := by rw [g2.cat, h4]; decide
      refine f2.2.2 (j, w') ?_
      have hji : ¬ j = i := by omega
      simp [hji, hc2]
  · refine (r4 j u h3).imp id fun ⟨w', g1, g2⟩ => ⟨w', ?_, g2⟩
    obtain ⟨ls2, f1, f2⟩ := base [(j, w')] (fun q h => by rw [List.mem_singleton.mp h]; exact g1)
    rw [e1] at f1
    cases f1
    refine f2.2.2 (j, w') ?_
    simp [h1, h2]
/-- two slots stored -/
theorem LR.store2 {L : List Value} {ls : Array Slot} {nL i : Nat} {v w : Value} (r : LR ρ o L ls nL) (hi : i + 1 < L.length) (hc : w.category = 2) (hv : VR ρ o v w) :
    ∃ ls', storeLocals ls i w = some ls' ∧ LR ρ o (lst2 L i v) ls' nL := by
  obtain ⟨r1, r2, r3, r4⟩ := r
  have base : ∀ l : List (Nat × Value), (∀ q ∈ l, ls[q.1]? = some (Slot.val q.2)) → ∃ ls', storeLocals ls i w = some ls' ∧ lv_has ls' nL ((i, w) :: l.filter (fun q => !(q.1 == i) && (!(q.1 == i + 1) && !(q.1 + 1 == i && q.2.category == 2)))) :=
    fun l hl => lv_store2 (l := l) ⟨r1, r3, hl⟩ (by omega) hc
  obtain ⟨ls', e1, e2⟩ := base [] (fun q h => by cases h)
  refine ⟨ls', e1, e2.1, by rw [lst2, List.length_set, lst_len]; exact r2, e2.2.1, fun j u hj => ?_⟩
  by_cases hj1 : j = i + 1
  · subst hj1
    rw [lst2, List.getElem?_set_self (by rw [lst_len]; omega)] at hj
    cases hj
    exact Or.inl rfl
  rw [lst2, List.getElem?_set_ne (Ne.symm hj1)] at hj
  rcases lst_get L i v j u hj with ⟨rfl, rfl⟩ | ⟨h1, t, h2, rfl⟩ | ⟨h1, h2, h3⟩
  · exact Or.inr ⟨w, e2.2.2 (j, w) List.mem_cons_self, hv⟩
  · rcases kl_cases t with h3 | ⟨h3, h4⟩
    · exact Or.inl h3
    · rw [h3]
      refine (r4 j t h2).imp id fun ⟨w', g1, g2⟩ => ⟨w', ?_, g2⟩
      obtain ⟨ls2, f1, f2⟩ := base [(j, w')] (fun q h => by rw [List.mem_singleton.mp h]; exact g1)
      rw [e1] at f1
      cases f1
      have hc2 : ¬ w'.category = 2 := by rw [g2.cat, h4]; decide
      refine f2.2.2 (j, w') ?_
      have hji : ¬ j = i := by omega
      simp [hji, hj1, hc2]
  · refine (r4 j u h3).imp id fun ⟨w', g1, g2⟩ => ⟨w', ?_, g2⟩
    obtain ⟨ls2, f1, f2⟩ := base [(j, w')] (fun q h => by rw [List.mem_singleton.mp h]; exact g1)
    rw [e1] at f1
    cases f1
    refine f2.2.2 (j, w') ?_
    simp [h1, h2, hj1]
end VRS
