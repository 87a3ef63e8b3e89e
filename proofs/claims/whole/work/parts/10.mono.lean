/-! what a step makes is counted upwards -/
def CL (H H' : HS) : Prop := H.2.2.1 ≤ H'.2.2.1 ∧ H.2.2.2 ≤ H'.2.2.2
theorem CL.rf {H : HS} : CL H H := ⟨Nat.le_refl _, Nat.le_refl _⟩
theorem CL.tr {H H' H'' : HS} (h : CL H H') (h' : CL H' H'') : CL H H'' := ⟨Nat.le_trans h.1 h'.1, Nat.le_trans h.2 h'.2⟩
def CLr (r : Rs) (y : Rs ⊕ Cf) : Prop := match y with
  | .inl r' => r'.2 = r.2
  | .inr c' => c'.2.2.2.2 = r.2
def CLs (H : HS) (so : SO) : Prop := match so with
  | .inl r => CL H r.2
  | .inr (.inl c) => CL H c.2.2.2.2
  | .inr (.inr (c, f)) => CL H c.2.2.2.2 ∧ ∀ r y, f r = some y → CLr r y
theorem ast_cl {H H' : HS} {kd a : Nat} {i : Int32} {v : Value} (h : ast H kd a i v = some H') : CL H H' := by
  unfold ast at h
  split at h
  · split at h <;> cases h
    exact CL.rf
  · cases h
theorem pfd_cl {H H' : HS} {ok : Bool} {ci fk a : Nat} {v : Value} (h : pfd H ok ci fk a v = some H') : CL H H' := by
  unfold pfd at h
  split at h
  · split at h <;> cases h
    exact CL.rf
  · cases h
theorem aast_cl {H H' : HS} {a v : Nat} {i : Int32} (h : aast H a i v = some H') : CL H H' := by
  unfold aast at h
  split at h
  · split at h <;> cases h
    exact CL.rf
  · cases h
theorem acp_cl {H H' : HS} {s d : Nat} {sp dp n : Int32} (h : acp H s d sp dp n = some H') : CL H H' := by
  unfold acp at h
  split at h
  · split at h <;> cases h
    exact CL.rf
  · cases h
theorem aft_cl {b : Bool} {k pc : Nat} {L rest : List Value} (r : Rs) (y : Rs ⊕ Cf) (h : aft b k pc L rest r = some y) : CLr r y := by
  obtain ⟨v | e, H'⟩ := r
  · cases h; rfl
  · cases b with
    | false => cases h
    | true =>
      simp only [aft, cond_true] at h
      cases hf : hfind (mexc k) pc e with
      | none => rw [hf] at h; cases h; rfl
      | some hd => rw [hf] at h; cases h; rfl
theorem cal_cl {b : Bool} {k pc y : Nat} {L st : List Value} {H : HS} {so : SO} (h : cal b k pc L H y st = some so) : CLs H so := by
  unfold cal at h
  split at h
  · cases h
    exact ⟨CL.rf, fun r y hy => aft_cl r y hy⟩
  · cases h
set_option maxHeartbeats 4000000 in
theorem stepI_cl {k pc : Nat} {L st : List Value} {H : HS} {so : SO} (h : stepI k pc L st H = some so) : CLs H so := by
  unfold stepI at h
  split at h
  · cases h
  · next i x y z u hm =>
    clear hm
    cases i <;> dsimp only at h <;> first
      | (cases h; done)
      | (cases h; exact CL.rf)
      | ((repeat' split at h) <;> first
          | (cases h; done)
          | (cases h; exact CL.rf)
          | exact cal_cl h
          | (rw [Bool.cond_eq_ite] at h; split at h <;> (cases h; exact CL.rf))
          | (cases h; first | exact ast_cl (by assumption) | exact pfd_cl (by assumption) | exact aast_cl (by assumption) | exact acp_cl (by assumption))
          | (cases h; exact ⟨Nat.le_succ _, Nat.le_add_right _ _⟩))
theorem ex_cl : ∀ (n : Nat) (c : Cf) (r : Rs), ex n c = some r → CL c.2.2.2.2 r.2 := by
  intro n
  induction n with
  | zero => intro c r h; cases h
  | succ n ih =>
    intro c r h
    rw [ex] at h
    cases hs : stp c with
    | none => rw [hs] at h; cases h
    | some so =>
      rw [hs] at h
      have hc := stepI_cl (show stepI c.1 c.2.1 c.2.2.1 c.2.2.2.1 c.2.2.2.2 = some so from hs)
      obtain r0 | c' | ⟨c', f⟩ := so
      · cases h; exact hc
      · exact hc.tr (ih _ _ h)
      · dsimp only at h
        cases h1 : ex n c' with
        | none => rw [h1] at h; cases h
        | some r1 =>
          rw [h1] at h
          dsimp only at h
          have h2 := hc.1.tr (ih _ _ h1)
          cases hf : f r1 with
          | none => rw [hf] at h; cases h
          | some y =>
            rw [hf] at h
            have h3 := hc.2 r1 y hf
            obtain r' | c'' := y
            · cases h
              have h3 : r.2 = r1.2 := h3
              rw [h3]; exact h2
            · have h3 : c''.2.2.2.2 = r1.2 := h3
              have h4 := ih _ _ h
              rw [h3] at h4
              exact h2.tr h4
