/-! the pure machine as one equation -/
noncomputable def ev (o : Option SO) : Option Rs := match o with
  | none => none
  | some (.inl r) => some r
  | some (.inr (.inl c)) => rn c.1 c.2.1 c.2.2.1 c.2.2.2.1 c.2.2.2.2
  | some (.inr (.inr (c, f))) => match rn c.1 c.2.1 c.2.2.1 c.2.2.2.1 c.2.2.2.2 with
    | none => none
    | some r => match f r with
      | none => none
      | some (.inl r') => some r'
      | some (.inr c') => rn c'.1 c'.2.1 c'.2.2.1 c'.2.2.2.1 c'.2.2.2.2
theorem rn_ev (k pc : Nat) (L st : List Value) (H : HS) : rn k pc L st H = ev (stepI k pc L st H) := by
  cases h : stepI k pc L st H with
  | none => exact rn_no h
  | some so =>
    obtain r | c | ⟨c, f⟩ := so
    · exact rn_end h
    · exact rn_nx h
    · refine opt_ext fun r => ?_
      rw [rn_iff]
      have hst : stp (k, pc, L, st, H) = some (.inr (.inr (c, f))) := h
      constructor
      · rintro ⟨n, e⟩
        cases n with
        | zero => cases e
        | succ n =>
          rw [ex, hst] at e
          dsimp only at e
          simp only [ev]
          cases h1 : ex n c with
          | none => rw [h1] at e; cases e
          | some r1 =>
            rw [h1] at e
            rw [show rn c.1 c.2.1 c.2.2.1 c.2.2.2.1 c.2.2.2.2 = some r1 from rn_iff.mpr ⟨n, h1⟩]
            dsimp only at e ⊢
            cases h2 : f r1 with
            | none => rw [h2] at e; cases e
            | some y =>
              rw [h2] at e
              obtain r' | c' := y
              · exact e
              · exact rn_iff.mpr ⟨n, e⟩
      · intro e
        simp only [ev] at e
        cases h1 : rn c.1 c.2.1 c.2.2.1 c.2.2.2.1 c.2.2.2.2 with
        | none => rw [h1] at e; cases e
        | some r1 =>
          rw [h1] at e
          dsimp only at e
          obtain ⟨n1, g1⟩ := rn_iff.mp h1
          cases h2 : f r1 with
          | none => rw [h2] at e; cases e
          | some y =>
            rw [h2] at e
            obtain r' | c' := y
            · refine ⟨n1 + 1, ?_⟩
              rw [ex, hst]
              dsimp only
              rw [show ex n1 c = some r1 from g1]
              dsimp only
              rw [h2]
              exact e
            · obtain ⟨n2, g2⟩ := rn_iff.mp e
              refine ⟨max n1 n2 + 1, ?_⟩
              rw [ex, hst]
              dsimp only
              rw [ex_le (Nat.le_max_left n1 n2) (show ex n1 c = some r1 from g1)]
              dsimp only
              rw [h2]
              exact ex_le (Nat.le_max_right n1 n2) g2
theorem ev_none : ev none = none := rfl
theorem ev_nx (k pc : Nat) (L st : List Value) (H : HS) : ev (nx k pc L st H) = rn k pc L st H := rfl
theorem ev_inl (r : Rs) : ev (some (.inl r)) = some r := rfl
theorem ev_call (b : Bool) (k pc y : Nat) (L as rest : List Value) (H : HS) : ev (some (.inr (.inr ((y, 0, eL y as, [], H), aft b k pc L rest)))) = bnd b k pc L rest (rcal y as H) := by
  simp only [ev]
  show (match rcal y as H with
    | none => none
    | some r => match aft b k pc L rest r with
      | none => none
      | some (.inl r') => some r'
      | some (.inr c') => rn c'.1 c'.2.1 c'.2.2.1 c'.2.2.2.1 c'.2.2.2.2) = _
  cases h : rcal y as H with
  | none => rfl
  | some r =>
    obtain ⟨v | a, H'⟩ := r
    · rfl
    · cases b with
      | false => rfl
      | true =>
        simp only [aft, bnd, cond_true]
        cases hf : hfind (mexc k) pc a with
        | none => rfl
        | some hd => rfl
/-! what a step comes to, as a function of what the heap gives -/
/-- a value comes from the heap -/
noncomputable def gk (k pc : Nat) (L st : List Value) (H : HS) (o : Option Value) : Option Rs := match o with
  | none => none
  | some v => rn k pc L (v :: st) H
/-- the heap is written -/
noncomputable def pk (k pc : Nat) (L st : List Value) (o : Option HS) : Option Rs := match o with
  | none => none
  | some H => rn k pc L st H
/-- two references are compared -/
noncomputable def qk (k t f : Nat) (L st : List Value) (H : HS) (o : Option Bool) : Option Rs := match o with
  | none => none
  | some r => if r = true then rn k t L st H else rn k f L st H
theorem gk_some (k pc : Nat) (L st : List Value) (H : HS) (v : Value) : gk k pc L st H (some v) = rn k pc L (v :: st) H := rfl
theorem pk_some (k pc : Nat) (L st : List Value) (H : HS) : pk k pc L st (some H) = rn k pc L st H := rfl
theorem qk_some (k t f : Nat) (L st : List Value) (H : HS) (r : Bool) : qk k t f L st H (some r) = if r = true then rn k t L st H else rn k f L st H := rfl
theorem bnd_v (b : Bool) (k pc : Nat) (L rest : List Value) (v : Value) (H : HS) : bnd b k pc L rest (some (.inl (some v), H)) = rn k (pc + 3) L (v :: rest) H := rfl
theorem bnd_n (b : Bool) (k pc : Nat) (L rest : List Value) (H : HS) : bnd b k pc L rest (some (.inl none, H)) = rn k (pc + 3) L rest H := rfl
theorem bnd_x (k pc : Nat) (L rest : List Value) (e : Nat) (H : HS) (h : mexc k = []) : bnd true k pc L rest (some (.inr e, H)) = some (.inr e, H) := by
  simp only [bnd, cond_true, h, hfind]
theorem bnd_c (k pc : Nat) (L rest : List Value) (e : Nat) (H : HS) (hd : Nat) (h : hfind (mexc k) pc e = some hd) : bnd true k pc L rest (some (.inr e, H)) = rn k hd L [.retAddr 9] H := by
  simp only [bnd, cond_true, h]
theorem vcal {H : HS} {a ci : Nat} {o so : Option SO} (h : recv H a ci = true) (e : o = (if recv H a ci = true then so else none)) : o = so := by
  rw [e, if_pos h]
theorem vcal4 {H : HS} {a : Nat} {o so : Option SO} (h : recv H a 6 = true) (e : o = (if 4 = 4 → recv H a 6 = true then so else none)) : o = so := by
  rw [e, if_pos (fun _ => h)]
theorem ev_bif {o : Option SO} {p : Prop} [Decidable p] {k pc pc' : Nat} {L st : List Value} {H : HS} (e : o = (bif decide p then nx k pc L st H else nx k pc' L st H)) : ev o = if p then rn k pc L st H else rn k pc' L st H := by
  rw [e]
  by_cases hp : p
  · rw [decide_eq_true hp, if_pos hp]; rfl
  · rw [decide_eq_false hp, if_neg hp]; rfl
theorem ev_bin {o : Option SO} {p : Prop} [Decidable p] {k pc pc' : Nat} {L st : List Value} {H : HS} (e : o = (bif decide (¬ p) then nx k pc' L st H else nx k pc L st H)) : ev o = if p then rn k pc L st H else rn k pc' L st H := by
  rw [e]
  by_cases hp : p
  · rw [decide_eq_false (fun h => h hp), if_pos hp]; rfl
  · rw [decide_eq_true hp, if_neg hp]; rfl
theorem ev_if {o : Option SO} {p : Prop} [Decidable p] {k pc : Nat} {L st : List Value} {H : HS} (e : o = if p then none else nx k pc L st H) : ev o = if p then none else rn k pc L st H := by
  rw [e]
  by_cases hp : p
  · rw [if_pos hp, if_pos hp]; rfl
  · rw [if_neg hp, if_neg hp]; rfl
theorem ev_ifp {o : Option SO} {p : Prop} [Decidable p] {k pc : Nat} {L st : List Value} {H : HS} {q : Option SO} (h : p) (e : o = if p then nx k pc L st H else q) : ev o = rn k pc L st H := by
  rw [e, if_pos h]; rfl
theorem ev_ret {o : Option SO} {p : Prop} [Decidable p] {r : Rs} (e : o = if p then some (.inl r) else none) : ev o = if p then some r else none := by
  rw [e]
  by_cases hp : p
  · rw [if_pos hp, if_pos hp]; rfl
  · rw [if_neg hp, if_neg hp]; rfl
theorem ev_gk {o : Option SO} {k pc : Nat} {L st : List Value} {H : HS} {g : Option Value} (e : o = match g with
    | some v => nx k pc L (v :: st) H
    | none => none) : ev o = gk k pc L st H g := by
  rw [e]; cases g <;> rfl
theorem ev_pk {o : Option SO} {k pc : Nat} {L st : List Value} {g : Option HS} (e : o = match g with
    | some H => nx k pc L st H
    | none => none) : ev o = pk k pc L st g := by
  rw [e]; cases g <;> rfl
theorem ev_qe {o : Option SO} {k t f : Nat} {L st : List Value} {H : HS} {g : Option Bool} (e : o = match g, Jvm.ClassFile.ACond.eq with
    | some r, .eq => bif r then nx k t L st H else nx k f L st H
    | some r, .ne => bif r then nx k f L st H else nx k t L st H
    | _, _ => none) : ev o = qk k t f L st H g := by
  rw [e]; cases g with
  | none => rfl
  | some r => cases r <;> rfl
theorem ev_qn {o : Option SO} {k t f : Nat} {L st : List Value} {H : HS} {g : Option Bool} (e : o = match g, Jvm.ClassFile.ACond.ne with
    | some r, .eq => bif r then nx k f L st H else nx k t L st H
    | some r, .ne => bif r then nx k t L st H else nx k f L st H
    | _, _ => none) : ev o = qk k t f L st H g := by
  rw [e]; cases g with
  | none => rfl
  | some r => cases r <;> rfl
theorem kl_int (x : Int32) : kl (.int x) = .int x := rfl
theorem kl_ref (a : Nat) : kl (.ref a) = .ref a := rfl
theorem kl_null : kl .null = .null := rfl
theorem kl_un (n : Nat) : kl (.retAddr n) = .retAddr n := rfl
