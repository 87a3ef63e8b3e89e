/-! a train is taken off its line -/
def keepS (S : List SL) (g : Nat) : List SL := S.filter fun s => decide (s.1 ≠ g)
/-- the line's trains without g, and g behind them, absent -/
def remS (S : List SL) (g : Nat) : List SL := keepS S g ++ [(g, (1, (tr S g).2))]
theorem set_app {α : Type} {A X : List α} {k : Nat} (v : α) (hA : A.length = k) (hk : k < X.length) : (A ++ X.drop k).set k v = (A ++ [v]) ++ X.drop (k + 1) := by
  rw [List.set_append_right _ _ (by omega), hA, Nat.sub_self, List.drop_eq_getElem_cons hk, List.set_cons_zero]
  simp
theorem get_app {α : Type} {A X : List α} {k i : Nat} (hA : A.length = k) (hk : k ≤ i) : (A ++ X.drop k)[i]? = X[i]? := by
  rw [List.getElem?_append_right (by omega), hA, List.getElem?_drop]
  congr 1; omega
theorem has_ex {S : List SL} {g : Nat} (hg : has S g) : ∃ D R, S = D ++ (g, tr S g) :: R := by
  induction S with
  | nil => cases hg
  | cons s S ih =>
    by_cases e : s.1 = g
    · refine ⟨[], S, ?_⟩
      have : tr (s :: S) g = s.2 := by simp [tr, lk, e]
      rw [this, ← e]; rfl
    · have h2 : has S g := by unfold has at hg ⊢; simpa [lk, e] using hg
      obtain ⟨D, R, hS⟩ := ih h2
      have : tr (s :: S) g = tr S g := by simp [tr, lk, e]
      rw [this]
      exact ⟨s :: D, R, by rw [List.cons_append, ← hS]⟩
theorem keep_self {S : List SL} {g : Nat} (h : ∀ s, s ∈ S → s.1 ≠ g) : keepS S g = S := by
  unfold keepS
  rw [List.filter_eq_self]
  intro s hs; simpa using h s hs
theorem nd_split {D R : List SL} {s : SL} (nd : NDH (D ++ s :: R)) : (∀ a, a ∈ D → a.1 ≠ s.1) ∧ (∀ a, a ∈ R → a.1 ≠ s.1) := by
  constructor
  · intro a ha e
    unfold NDH at nd
    rw [List.map_append, List.nodup_append] at nd
    exact nd.2.2 a.1 (List.mem_map_of_mem ha) s.1 (by simp) e
  · intro a ha e
    unfold NDH at nd
    rw [List.map_append, List.nodup_append] at nd
    exact (List.nodup_cons.mp nd.2.1).1 (e ▸ List.mem_map_of_mem ha)
theorem keep_len {S : List SL} {g : Nat} (nd : NDH S) (hg : has S g) : (keepS S g).length + 1 = S.length := by
  obtain ⟨D, R, hS⟩ := has_ex hg
  have nd2 := nd
  rw [hS] at nd2
  obtain ⟨h1, h2⟩ := nd_split nd2
  rw [hS, keepS, List.filter_append, List.filter_cons]
  simp only [ne_eq, not_true_eq_false, decide_false, Bool.false_eq_true, if_false]
  have e1 := keep_self h1
  have e2 := keep_self h2
  unfold keepS at e1 e2
  simp only [ne_eq] at e1 e2
  rw [e1, e2]; simp; omega
theorem keep_lk (S : List SL) (g j : Nat) : lk (keepS S g) j = if j = g then none else lk S j := by
  induction S with
  | nil => simp [keepS, lk]
  | cons s S ih =>
    unfold keepS at ih ⊢
    rw [List.filter_cons]
    by_cases e : s.1 = g
    · simp only [e, ne_eq, not_true_eq_false, decide_false, Bool.false_eq_true, if_false]
      rw [ih]
      by_cases e2 : j = g
      · rw [if_pos e2, if_pos e2]
      · rw [if_neg e2, if_neg e2, lk, if_neg (by rw [e]; exact Ne.symm e2)]
    · simp only [e, ne_eq, not_false_eq_true, decide_true, if_true]
      rw [lk, lk, ih]
      by_cases e3 : s.1 = j
      · rw [if_pos e3, if_neg (fun q => e (e3.trans q)), if_pos e3]
      · rw [if_neg e3, if_neg e3]
theorem lk_app (A B : List SL) (j : Nat) : lk (A ++ B) j = (match lk A j with
    | some t => some t
    | none => lk B j) := by
  induction A with
  | nil => rfl
  | cons a A ih =>
    rw [List.cons_append, lk, lk]
    by_cases e : a.1 = j
    · rw [if_pos e, if_pos e]
    · rw [if_neg e, if_neg e, ih]
theorem rem_lk (S : List SL) (g j : Nat) : lk (remS S g) j = if j = g then some (1, (tr S g).2) else lk S j := by
  rw [remS, lk_app, keep_lk]
  by_cases e : j = g
  · subst e; simp [lk]
  · rw [if_neg e, if_neg e]
    cases lk S j with
    | some t => rfl
    | none => simp [lk, Ne.symm e]
theorem WS_rem {S : List SL} (w : WS S) {g : Nat} (hg : has S g) : WS (remS S g) := by
  obtain ⟨D, R, hS⟩ := has_ex hg
  have hm : (g, tr S g) ∈ S := (congrArg (fun l => (g, tr S g) ∈ l) hS).mpr (List.mem_append_right _ List.mem_cons_self)
  have hk : ∀ s, s ∈ keepS S g → s ∈ S ∧ s.1 ≠ g := fun s hs => by
    unfold keepS at hs; simpa using List.mem_filter.mp hs
  refine ⟨?_, ?_, ?_, ?_, ?_⟩
  · have := keep_len w.2.1 hg
    rw [remS, List.length_append, List.length_singleton, this, w.1]
  · unfold NDH remS
    rw [List.map_append, List.nodup_append]
    refine ⟨?_, by simp, ?_⟩
    · have : (keepS S g).map Prod.fst = (S.map Prod.fst).filter (fun a => decide (a ≠ g)) := by
        unfold keepS; rw [List.filter_map]; rfl
      rw [this]; exact w.2.1.filter _
    · intro a ha b hb e
      obtain ⟨s, hs, rfl⟩ := List.mem_map.mp ha
      have : b = g := by simpa using hb
      exact (hk s hs).2 (e.trans this)
  · intro s hs
    rcases List.mem_append.mp hs with q | q
    · exact w.2.2.1 s (hk s q).1
    · have : s = (g, (1, (tr S g).2)) := by simpa using q
      rw [this]; exact ⟨Nat.le_refl 1, by show 1 ≤ 4; decide⟩
  · intro s hs
    rcases List.mem_append.mp hs with q | q
    · exact w.2.2.2.1 s (hk s q).1
    · have : s = (g, (1, (tr S g).2)) := by simpa using q
      rw [this]; exact w.2.2.2.1 (g, tr S g) hm
  · intro s hs
    rcases List.mem_append.mp hs with q | q
    · exact w.2.2.2.2 s (hk s q).1
    · have : s = (g, (1, (tr S g).2)) := by simpa using q
      rw [this]; exact w.2.2.2.2 (g, tr S g) hm
/-- the references to trains -/
def rfs (p : Nat) (S : List SL) : List Value := S.map fun s => .ref (p + 5 + s.1)
section REM
variable (h : PH) {p : Nat} (f tk rt ps : Nat → Int32) (S : List SL) (r : Nat × Nat × Nat) {j i : Nat}
def puR (vs : List Value) : HS := (pu (put h p f tk rt ps S) (p + 4) (105, vs), r)
variable {vs : List Value}
theorem puR_o {b : Nat} (hb : b ≠ p + 4) : (puR h (p := p) f tk rt ps S r vs).1 b = put h p f tk rt ps S b := by
  simp [puR, pu, hb]
theorem puR_4 : (puR h (p := p) f tk rt ps S r vs).1 (p + 4) = some (105, vs) := by simp [puR, pu]
theorem gR4 : gfd (puR h (p := p) f tk rt ps S r vs) 1 4 p = some (.ref (p + 4)) := by
  unfold gfd; rw [puR_o h f tk rt ps S r (by omega), put_0]; rfl
theorem aR {n : Nat} (hn : n < vs.length) (hl : vs.length < 2147483648) : aald (puR h (p := p) f tk rt ps S r vs) (p + 4) (I n) = vs[n]? := by
  unfold aald
  simp only [puR_4]
  rw [if_pos ⟨rfl, fun q => q.elim (I_nn (by omega)) (fun q => by rw [I_nat (by omega)] at q; omega)⟩, I_nat (by omega)]
theorem asR (hp : 32 ≤ p) {n : Nat} (hn : n < vs.length) (hl : vs.length < 2147483648) (hj : has S j) : aast (puR h (p := p) f tk rt ps S r vs) (p + 4) (I n) (p + 5 + j) = some (puR h (p := p) f tk rt ps S r (vs.set n (.ref (p + 5 + j)))) := by
  unfold aast
  simp only [puR_4]
  rw [if_pos ⟨Or.inl ⟨trivial, by rw [puR_o h f tk rt ps S r (by omega), put_t h p f tk rt ps S hj]; rfl⟩, show 32 ≤ p + 5 + j by omega, show 32 ≤ p + 4 by omega, fun q => q.elim (I_nn (by omega)) (fun q => by rw [I_nat (by omega)] at q; omega)⟩, I_nat (by omega)]
  unfold hsu puR
  congr 2
  funext b
  simp only [pu]
  by_cases e : b = p + 4
  · rw [if_pos e, if_pos e]
  · rw [if_neg e, if_neg e, if_neg e]
theorem rR (hp : 32 ≤ p) (hi : has S i) (hj : has S j) : req (puR h (p := p) f tk rt ps S r vs) (.ref (p + 5 + i)) (.ref (p + 5 + j)) = some (decide (i = j)) := by
  unfold req
  simp only []
  rw [if_pos ⟨Or.inr ⟨show 32 ≤ p + 5 + i by omega, by rw [puR_o h f tk rt ps S r (by omega), put_t h p f tk rt ps S hi]; rfl⟩, Or.inr ⟨show 32 ≤ p + 5 + j by omega, by rw [puR_o h f tk rt ps S r (by omega), put_t h p f tk rt ps S hj]; rfl⟩⟩]
  simp
theorem l43 (hp : 32 ≤ p) (w : WS S) {g : Nat} (hg : has S g) : ∀ (R D : List SL) (i k : Int32) (z : Value), S = D ++ R → i = I D.length → k = I (keepS D g).length →
    rn 43 4 [.ref p, .ref (p + 5 + g), .int k, .int i, z] [] (puR h (p := p) f tk rt ps S r (rfs p (keepS D g) ++ (rfs p S).drop (keepS D g).length)) =
    rn 43 41 [.ref p, .ref (p + 5 + g), .int (I (keepS S g).length), .int (I 6), (match R.getLast? with
      | some s => .ref (p + 5 + s.1)
      | none => z)] [] (puR h (p := p) f tk rt ps S r (rfs p (keepS S g) ++ (rfs p S).drop (keepS S g).length)) := by
  intro R
  induction R with
  | nil =>
    intro D i k z hS hi hk
    have h6 := end_ w hS
    have : D = S := by rw [hS]; simp
    subst this
    rw [x43_4]
    simp only [x43_0, x43_1, x43_2, x43_3, x43_5, x43_7, x43_10, x43_11, x43_14, x43_15, x43_16, x43_18, x43_20, x43_21, x43_24, x43_25, x43_28, x43_29, x43_31, x43_32, x43_35, x43_38, x43_42, x43_45, x43_46, x43_47, x43_48, x43_49, x43_52, x43_55, x43_56, x43_57, x43_60, x43_61, x43_62, x43_65, gk_some, pk_some, qk_some, bnd_v, bnd_n, kl_int, kl_ref, kl_null, kl_un, Nat.reduceAdd, if_true, if_false, hi, hk, h6, show ¬ I 6 < 6 by decide, List.getLast?_nil]
  | cons s R ih =>
    intro D i k z hS hi hk
    obtain ⟨h1, h2, h3, h4, h5⟩ := mid_ w hS
    have hkl : (keepS D g).length ≤ D.length := by unfold keepS; exact List.length_filter_le _ _
    have hrl : (rfs p S).length = 6 := by unfold rfs; rw [List.length_map, w.1]
    have hfl : (rfs p (keepS D g)).length = (keepS D g).length := by unfold rfs; rw [List.length_map]
    have hvl : (rfs p (keepS D g) ++ (rfs p S).drop (keepS D g).length).length = 6 := by
      rw [List.length_append, hfl, List.length_drop, hrl]; omega
    have ha : aald (puR h (p := p) f tk rt ps S r (rfs p (keepS D g) ++ (rfs p S).drop (keepS D g).length)) (p + 4) (I D.length) = some (.ref (p + 5 + s.1)) := by
      rw [aR h f tk rt ps S r (by omega) (by omega), get_app hfl hkl]
      unfold rfs
      rw [List.getElem?_map, hS]; simp
    have hq := rR h f tk rt ps S r (p := p) (vs := rfs p (keepS D g) ++ (rfs p S).drop (keepS D g).length) hp h1 hg
    have hlast : (match (s :: R).getLast? with
      | some s => Value.ref (p + 5 + s.1)
      | none => z) = (match R.getLast? with
      | some s => Value.ref (p + 5 + s.1)
      | none => .ref (p + 5 + s.1)) := by
      cases R with
      | nil => rfl
      | cons a R =>
        rw [List.getLast?_cons_cons]
        cases hh : (a :: R).getLast? with
        | none => simp at hh
        | some b => rfl
    rw [x43_4]
    by_cases e : s.1 = g
    · have hkd : keepS (D ++ [s]) g = keepS D g := by unfold keepS; rw [List.filter_append]; simp [e]
      have ih' := ih (D ++ [s]) (I D.length + 1) k (.ref (p + 5 + s.1)) (sub_ hS) (len_ D s) (by rw [hkd]; exact hk)
      rw [hkd] at ih'
      rw [e] at ha ih'
      simp only [x43_0, x43_1, x43_2, x43_3, x43_5, x43_7, x43_10, x43_11, x43_14, x43_15, x43_16, x43_18, x43_20, x43_21, x43_24, x43_25, x43_28, x43_29, x43_31, x43_32, x43_35, x43_38, x43_42, x43_45, x43_46, x43_47, x43_48, x43_49, x43_52, x43_55, x43_56, x43_57, x43_60, x43_61, x43_62, x43_65, gk_some, pk_some, qk_some, bnd_v, bnd_n, kl_int, kl_ref, kl_null, kl_un, Nat.reduceAdd, if_true, if_false, gl0, gl1, gl2, gl3, gl4, gl5, gl6, gl7, gl8, gl9, gl10, gl11, gl12, gR4, hi, show (I D.length < 6) = True from eq_true h4, ha, rR h f tk rt ps S r hp hg hg, fit1, fit0, fitb, b2i_t, b2i_f, reduceIte, decide_true, decide_false, ih']
      rw [hlast, e]
    · have hkd : keepS (D ++ [s]) g = keepS D g ++ [s] := by unfold keepS; rw [List.filter_append]; simp [e]
      have hs := asR h f tk rt ps S r hp (vs := rfs p (keepS D g) ++ (rfs p S).drop (keepS D g).length) (n := (keepS D g).length) (by omega) (by omega) h1
      rw [set_app _ hfl (by omega)] at hs
      have hr1 : rfs p (keepS D g) ++ [Value.ref (p + 5 + s.1)] = rfs p (keepS D g ++ [s]) := by unfold rfs; simp
      rw [hr1] at hs
      have ih' := ih (D ++ [s]) (I D.length + 1) (I (keepS D g).length + 1) (.ref (p + 5 + s.1)) (sub_ hS) (len_ D s) (by rw [hkd, I_1]; simp)
      rw [hkd] at ih'
      simp only [List.length_append, List.length_singleton] at ih'
      simp only [x43_0, x43_1, x43_2, x43_3, x43_5, x43_7, x43_10, x43_11, x43_14, x43_15, x43_16, x43_18, x43_20, x43_21, x43_24, x43_25, x43_28, x43_29, x43_31, x43_32, x43_35, x43_38, x43_42, x43_45, x43_46, x43_47, x43_48, x43_49, x43_52, x43_55, x43_56, x43_57, x43_60, x43_61, x43_62, x43_65, gk_some, pk_some, qk_some, bnd_v, bnd_n, kl_int, kl_ref, kl_null, kl_un, Nat.reduceAdd, if_true, if_false, gl0, gl1, gl2, gl3, gl4, gl5, gl6, gl7, gl8, gl9, gl10, gl11, gl12, gR4, hi, hk, show (I D.length < 6) = True from eq_true h4, ha, hq, e, fit1, fit0, fitb, b2i_t, b2i_f, reduceIte, decide_true, decide_false, Bool.false_eq_true, hs, ih']
      rw [hlast]
theorem m43 (hp : 32 ≤ p) (w : WS S) {g : Nat} (hg : has S g) : rcal 43 [.ref p, .ref (p + 5 + g)] (put h p f tk rt ps S, r) = some (.inl none, (put h p (up f 5 (f 5 - 1)) tk rt ps (remS S g), r)) := by
  have hrl : (rfs p S).length = 6 := by unfold rfs; rw [List.length_map, w.1]
  have hkl : (keepS S g).length = 5 := by have := keep_len w.2.1 hg; rw [w.1] at this; omega
  have hfl : (rfs p (keepS S g)).length = 5 := by unfold rfs; rw [List.length_map, hkl]
  have e0 : (put h p f tk rt ps S, r) = puR h (p := p) f tk rt ps S r (rfs p (keepS [] g) ++ (rfs p S).drop (keepS [] g).length) := by
    unfold puR
    congr 1
    funext b
    simp only [pu]
    by_cases e : b = p + 4
    · rw [if_pos e, e, put_4]; simp [keepS, rfs]
    · rw [if_neg e]
  have e := l43 h f tk rt ps S r hp w hg S [] 0 0 un rfl rfl rfl
  have hs := asR h f tk rt ps S r hp (vs := rfs p (keepS S g) ++ (rfs p S).drop (keepS S g).length) (n := 5) (by rw [List.length_append, List.length_drop, hfl, hrl, hkl]; decide) (by rw [List.length_append, List.length_drop, hfl, hrl, hkl]; decide) hg
  rw [hkl] at hs
  rw [set_app _ hfl (by omega)] at hs
  have hd : (rfs p S).drop (5 + 1) = [] := by rw [List.drop_eq_nil_iff]; omega
  have hv : (rfs p (keepS S g) ++ [Value.ref (p + 5 + g)]) ++ (rfs p S).drop (5 + 1) = rfs p (remS S g) := by
    rw [hd]; unfold rfs remS; simp
  rw [hv] at hs
  have hh : has S g := hg
  have hfin : hsu (puR h (p := p) f tk rt ps S r (rfs p (remS S g))) (p + 5 + g) (tO (1, (tr S g).2)) = (put h p f tk rt ps (remS S g), r) := by
    unfold hsu puR
    congr 1
    funext b
    simp only [pu, put]
    by_cases c : b = p + 5 + g
    · subst c
      rw [if_pos rfl, if_neg (by omega), if_neg (by omega), if_neg (by omega), if_neg (by omega), if_neg (by omega), if_pos (by omega), show p + 5 + g - (p + 5) = g by omega, rem_lk, if_pos rfl]
    · rw [if_neg c]
      by_cases c4 : b = p + 4
      · subst c4
        rw [if_pos rfl, if_neg (by omega), if_neg (by omega), if_neg (by omega), if_neg (by omega), if_pos rfl]; rfl
      · rw [if_neg c4, if_neg c4, if_neg c4, rem_lk]
        by_cases c5 : p + 5 ≤ b
        · rw [if_neg (by omega : ¬ b - (p + 5) = g)]
        · rw [if_neg c5, if_neg c5]
  have hpf : pfd (puR h (p := p) f tk rt ps S r (rfs p (remS S g))) true 2 0 (p + 5 + g) (.ref 1) = some (put h p f tk rt ps (remS S g), r) :=
    pfd_of (by rw [puR_o h f tk rt ps S r (by omega)]; exact put_t h p f tk rt ps S hg) (by decide) (by omega) rfl (by rw [← hfin]; rfl)
  rw [e0]
  simp only [c43, x43_0, x43_1, x43_2, x43_3, x43_5, x43_7, x43_10, x43_11, x43_14, x43_15, x43_16, x43_18, x43_20, x43_21, x43_24, x43_25, x43_28, x43_29, x43_31, x43_32, x43_35, x43_38, x43_42, x43_45, x43_46, x43_47, x43_48, x43_49, x43_52, x43_55, x43_56, x43_57, x43_60, x43_61, x43_62, x43_65, gk_some, pk_some, qk_some, bnd_v, bnd_n, kl_int, kl_ref, kl_null, kl_un, Nat.reduceAdd, if_true, if_false, e]
  rw [x43_41, hkl]
  simp only [x43_0, x43_1, x43_2, x43_3, x43_5, x43_7, x43_10, x43_11, x43_14, x43_15, x43_16, x43_18, x43_20, x43_21, x43_24, x43_25, x43_28, x43_29, x43_31, x43_32, x43_35, x43_38, x43_42, x43_45, x43_46, x43_47, x43_48, x43_49, x43_52, x43_55, x43_56, x43_57, x43_60, x43_61, x43_62, x43_65, gk_some, pk_some, qk_some, bnd_v, bnd_n, kl_int, kl_ref, kl_null, kl_un, Nat.reduceAdd, if_true, if_false, gR4, show (5 : Int32) = I 5 from rfl, hs, hpf, gl0, gl1, gl2, gl3, gl4, gl5, gl6, gl7, gl8, gl9, gl10, gl11, gl12, pl5 h _ _ _ _ _ _ hp]
end REM
