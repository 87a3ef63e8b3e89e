/-! A LINE IN THE HEAP: its object, three arrays, the row of its trains, six trains; p is its address. -/
abbrev TR : Type := Nat × (Nat → Int32)
/-- a train with its place 0..5 among the line's own cells -/
abbrev SL : Type := Nat × TR
abbrev I (n : Nat) : Int32 := Int32.ofNat n
def up (f : Nat → Int32) (j : Nat) (v : Int32) : Nat → Int32 := fun i => if i = j then v else f i
def tO (t : TR) : PO := (2, [.ref t.1, .int (t.2 1), .int (t.2 2), .int (t.2 3), .int (t.2 4), .int (t.2 5), .int (t.2 6), .int (t.2 7), .int (t.2 8), .int (t.2 9), .int (t.2 10), .int (t.2 11)])
def lO (p : Nat) (f : Nat → Int32) : PO := (1, [.int (f 0), .ref (p + 1), .ref (p + 2), .ref (p + 3), .ref (p + 4), .int (f 5), .int (f 6), .int (f 7), .int (f 8), .int (f 9), .long (f 10).toInt64, .int (f 11), .int (f 12)])
def iA (n : Nat) (g : Nat → Int32) : PO := (100, (List.range n).map fun i => .int (g i))
def lk (S : List SL) (j : Nat) : Option TR := match S with
  | [] => none
  | s :: S => if s.1 = j then some s.2 else lk S j
def has (S : List SL) (j : Nat) : Prop := (lk S j).isSome = true
def tr (S : List SL) (j : Nat) : TR := (lk S j).getD (0, fun _ => 0)
def upS (S : List SL) (j : Nat) (t : TR) : List SL := S.map fun s => if s.1 = j then (j, t) else s
def put (h : PH) (p : Nat) (f tk rt ps : Nat → Int32) (S : List SL) : PH := fun b =>
  if b = p then some (lO p f) else if b = p + 1 then some (iA 7 tk) else if b = p + 2 then some (iA 6 rt) else if b = p + 3 then some (iA 7 ps)
  else if b = p + 4 then some (105, S.map fun s => .ref (p + 5 + s.1)) else if p + 5 ≤ b then (match lk S (b - (p + 5)) with
    | some t => some (tO t)
    | none => h b) else h b
section PUT
variable (h : PH) (p : Nat) (f tk rt ps : Nat → Int32) (S : List SL)
theorem put_0 : put h p f tk rt ps S p = some (lO p f) := by simp [put]
theorem put_1 : put h p f tk rt ps S (p + 1) = some (iA 7 tk) := by simp [put]
theorem put_2 : put h p f tk rt ps S (p + 2) = some (iA 6 rt) := by simp [put]
theorem put_3 : put h p f tk rt ps S (p + 3) = some (iA 7 ps) := by simp [put]
theorem put_4 : put h p f tk rt ps S (p + 4) = some (105, S.map fun s => .ref (p + 5 + s.1)) := by simp [put]
theorem put_5 (j : Nat) : put h p f tk rt ps S (p + 5 + j) = match lk S j with
    | some t => some (tO t)
    | none => h (p + 5 + j) := by
  unfold put
  rw [if_neg (by omega), if_neg (by omega), if_neg (by omega), if_neg (by omega), if_neg (by omega), if_pos (by omega), show p + 5 + j - (p + 5) = j by omega]
theorem put_t {j : Nat} (hj : has S j) : put h p f tk rt ps S (p + 5 + j) = some (tO (tr S j)) := by
  rw [put_5]; unfold has at hj; unfold tr
  cases e : lk S j with
  | none => rw [e] at hj; cases hj
  | some t => rfl
variable (r : Nat × Nat × Nat)
theorem gl0 : gfd (put h p f tk rt ps S, r) 1 0 p = some (.int (f 0)) := by simp [gfd, put_0, lO]
theorem gl1 : gfd (put h p f tk rt ps S, r) 1 1 p = some (.ref (p + 1)) := by simp [gfd, put_0, lO]
theorem gl2 : gfd (put h p f tk rt ps S, r) 1 2 p = some (.ref (p + 2)) := by simp [gfd, put_0, lO]
theorem gl3 : gfd (put h p f tk rt ps S, r) 1 3 p = some (.ref (p + 3)) := by simp [gfd, put_0, lO]
theorem gl4 : gfd (put h p f tk rt ps S, r) 1 4 p = some (.ref (p + 4)) := by simp [gfd, put_0, lO]
theorem gl5 : gfd (put h p f tk rt ps S, r) 1 5 p = some (.int (f 5)) := by simp [gfd, put_0, lO]
theorem gl6 : gfd (put h p f tk rt ps S, r) 1 6 p = some (.int (f 6)) := by simp [gfd, put_0, lO]
theorem gl7 : gfd (put h p f tk rt ps S, r) 1 7 p = some (.int (f 7)) := by simp [gfd, put_0, lO]
theorem gl8 : gfd (put h p f tk rt ps S, r) 1 8 p = some (.int (f 8)) := by simp [gfd, put_0, lO]
theorem gl9 : gfd (put h p f tk rt ps S, r) 1 9 p = some (.int (f 9)) := by simp [gfd, put_0, lO]
theorem gl10 : gfd (put h p f tk rt ps S, r) 1 10 p = some (.long (f 10).toInt64) := by simp [gfd, put_0, lO]
theorem gl11 : gfd (put h p f tk rt ps S, r) 1 11 p = some (.int (f 11)) := by simp [gfd, put_0, lO]
theorem gl12 : gfd (put h p f tk rt ps S, r) 1 12 p = some (.int (f 12)) := by simp [gfd, put_0, lO]
theorem gt0 {j : Nat} (hj : has S j) : gfd (put h p f tk rt ps S, r) 2 0 (p + 5 + j) = some (.ref (tr S j).1) := by simp [gfd, put_t h p f tk rt ps S hj, tO]
theorem gt1 {j : Nat} (hj : has S j) : gfd (put h p f tk rt ps S, r) 2 1 (p + 5 + j) = some (.int ((tr S j).2 1)) := by simp [gfd, put_t h p f tk rt ps S hj, tO]
theorem gt2 {j : Nat} (hj : has S j) : gfd (put h p f tk rt ps S, r) 2 2 (p + 5 + j) = some (.int ((tr S j).2 2)) := by simp [gfd, put_t h p f tk rt ps S hj, tO]
theorem gt3 {j : Nat} (hj : has S j) : gfd (put h p f tk rt ps S, r) 2 3 (p + 5 + j) = some (.int ((tr S j).2 3)) := by simp [gfd, put_t h p f tk rt ps S hj, tO]
theorem gt4 {j : Nat} (hj : has S j) : gfd (put h p f tk rt ps S, r) 2 4 (p + 5 + j) = some (.int ((tr S j).2 4)) := by simp [gfd, put_t h p f tk rt ps S hj, tO]
theorem gt5 {j : Nat} (hj : has S j) : gfd (put h p f tk rt ps S, r) 2 5 (p + 5 + j) = some (.int ((tr S j).2 5)) := by simp [gfd, put_t h p f tk rt ps S hj, tO]
theorem gt6 {j : Nat} (hj : has S j) : gfd (put h p f tk rt ps S, r) 2 6 (p + 5 + j) = some (.int ((tr S j).2 6)) := by simp [gfd, put_t h p f tk rt ps S hj, tO]
theorem gt7 {j : Nat} (hj : has S j) : gfd (put h p f tk rt ps S, r) 2 7 (p + 5 + j) = some (.int ((tr S j).2 7)) := by simp [gfd, put_t h p f tk rt ps S hj, tO]
theorem gt8 {j : Nat} (hj : has S j) : gfd (put h p f tk rt ps S, r) 2 8 (p + 5 + j) = some (.int ((tr S j).2 8)) := by simp [gfd, put_t h p f tk rt ps S hj, tO]
theorem gt9 {j : Nat} (hj : has S j) : gfd (put h p f tk rt ps S, r) 2 9 (p + 5 + j) = some (.int ((tr S j).2 9)) := by simp [gfd, put_t h p f tk rt ps S hj, tO]
theorem gt10 {j : Nat} (hj : has S j) : gfd (put h p f tk rt ps S, r) 2 10 (p + 5 + j) = some (.int ((tr S j).2 10)) := by simp [gfd, put_t h p f tk rt ps S hj, tO]
theorem gt11 {j : Nat} (hj : has S j) : gfd (put h p f tk rt ps S, r) 2 11 (p + 5 + j) = some (.int ((tr S j).2 11)) := by simp [gfd, put_t h p f tk rt ps S hj, tO]
theorem rvL : recv (put h p f tk rt ps S, r) p 1 = true := by simp [recv, put_0, lO]
theorem rvT {j : Nat} (hj : has S j) : recv (put h p f tk rt ps S, r) (p + 5 + j) 2 = true := by simp [recv, put_t h p f tk rt ps S hj, tO]
theorem alL : alen (put h p f tk rt ps S, r) (p + 4) = some (.int (I S.length)) := by simp [alen, put_4]
end PUT
theorem iA_get {n : Nat} {g : Nat → Int32} {i : Nat} (hi : i < n) : ((List.range n).map fun i => Value.int (g i))[i]? = some (.int (g i)) := by
  simp [hi]
theorem iA_set {n : Nat} {g : Nat → Int32} {i : Nat} (v : Int32) : ((List.range n).map fun i => Value.int (g i)).set i (.int v) = (List.range n).map fun k => Value.int (up g i v k) := by
  refine List.ext_getElem? fun k => ?_
  rw [List.getElem?_set, List.getElem?_map, List.getElem?_map]
  by_cases hk : k < n
  · simp [hk, up]
    by_cases e : i = k
    · simp [e, hk]
    · simp [e, Ne.symm e]
  · simp [hk]; omega
theorem ald_i {H : HS} {a n : Nat} {g : Nat → Int32} (e : H.1 a = some (iA n g)) {i : Int32} (h0 : ¬ i < 0) (h1 : i.toNatClampNeg < n) (hn : n < 2147483648) : ald H 100 a i = some (.int (g i.toNatClampNeg)) := by
  unfold ald
  rw [e]
  simp only [iA, List.length_map, List.length_range]
  rw [if_pos ⟨trivial, fun q => q.elim h0 (fun q => absurd q (by omega)), hn⟩, iA_get h1]
theorem ast_i {H : HS} {a n : Nat} {g : Nat → Int32} (e : H.1 a = some (iA n g)) {i : Int32} (ha : 32 ≤ a) (h0 : ¬ i < 0) (h1 : i.toNatClampNeg < n) (v : Int32) : ast H 100 a i (.int v) = some (hsu H a (iA n (up g i.toNatClampNeg v))) := by
  unfold ast
  rw [e]
  simp only [iA, List.length_map, List.length_range]
  rw [if_pos ⟨trivial, ha, fun q => q.elim h0 (fun q => absurd q (by omega))⟩, iA_set]
theorem up_eq (f : Nat → Int32) (j : Nat) (v : Int32) : up f j v j = v := by simp [up]
theorem up_ne (f : Nat → Int32) {j i : Nat} (v : Int32) (h : i ≠ j) : up f j v i = f i := by simp [up, h]
theorem lk_up (S : List SL) (j : Nat) (t : TR) (i : Nat) : lk (upS S j t) i = if i = j then (if (lk S j).isSome = true then some t else none) else lk S i := by
  induction S with
  | nil => simp [upS, lk, has]
  | cons s S ih =>
    simp only [upS, List.map_cons] at ih ⊢
    simp only [lk, has]
    by_cases h : s.1 = j
    · rw [if_pos h]
      simp only []
      by_cases e : j = i
      · subst e; simp [h]
      · rw [if_neg e, ih, if_neg (Ne.symm e), if_neg (Ne.symm e), if_neg (fun q => e (h.symm.trans q))]
    · rw [if_neg h]
      by_cases e : s.1 = i
      · rw [if_pos e, if_neg (fun q => h (e.trans q)), if_pos e]
      · rw [if_neg e, ih]
        by_cases e2 : i = j
        · simp [e2, h, has]
        · simp [e2, e]
theorem has_up (S : List SL) (j : Nat) (t : TR) (i : Nat) : has (upS S j t) i ↔ has S i := by
  unfold has
  rw [lk_up]
  by_cases e : i = j
  · subst e; simp only [if_true]
    by_cases hh : (lk S i).isSome = true
    · rw [if_pos hh]; exact ⟨fun _ => hh, fun _ => rfl⟩
    · rw [if_neg hh]; exact ⟨fun q => (by cases q), fun q => absurd q hh⟩
  · rw [if_neg e]
theorem tr_up {S : List SL} {j : Nat} (hj : has S j) (t : TR) : tr (upS S j t) j = t := by
  unfold tr
  rw [lk_up, if_pos rfl, if_pos (show (lk S j).isSome = true from hj)]; rfl
theorem tr_upn (S : List SL) {j i : Nat} (t : TR) (h : i ≠ j) : tr (upS S j t) i = tr S i := by
  unfold tr
  rw [lk_up, if_neg h]
theorem upS_len (S : List SL) (j : Nat) (t : TR) : (upS S j t).length = S.length := by simp [upS]
theorem upS_fst (S : List SL) (j : Nat) (t : TR) : (upS S j t).map Prod.fst = S.map Prod.fst := by
  simp only [upS, List.map_map]
  refine List.map_congr_left fun s _ => ?_
  simp only [Function.comp]
  by_cases h : s.1 = j
  · rw [if_pos h]; exact h.symm
  · rw [if_neg h]
theorem upS_ref (S : List SL) (j : Nat) (t : TR) (p : Nat) : (upS S j t).map (fun s => Value.ref (p + 5 + s.1)) = S.map fun s => Value.ref (p + 5 + s.1) := by
  have h := congrArg (List.map fun i => Value.ref (p + 5 + i)) (upS_fst S j t)
  simpa only [List.map_map, Function.comp_def] using h
section PUT2
variable (h : PH) {p : Nat} (f tk rt ps : Nat → Int32) (S : List SL) (r : Nat × Nat × Nat)
theorem put_f {j : Nat} (v : Int32) (g : Nat → Int32) (e : pu (put h p f tk rt ps S) p (lO p g) = put h p g tk rt ps S) : hsu (put h p f tk rt ps S, r) p (lO p g) = (put h p g tk rt ps S, r) := by
  unfold hsu; rw [e]
theorem pu_0 (g : Nat → Int32) : pu (put h p f tk rt ps S) p (lO p g) = put h p g tk rt ps S := by
  funext b
  simp only [pu, put]
  by_cases e : b = p
  · rw [if_pos e, if_pos e]
  · rw [if_neg e, if_neg e, if_neg e]
theorem pu_1 (g : Nat → Int32) : pu (put h p f tk rt ps S) (p + 1) (iA 7 g) = put h p f g rt ps S := by
  funext b
  simp only [pu, put]
  by_cases e : b = p + 1
  · rw [if_pos e, if_neg (by omega), if_pos e]
  · rw [if_neg e, if_neg e, if_neg e]
theorem pu_2 (g : Nat → Int32) : pu (put h p f tk rt ps S) (p + 2) (iA 6 g) = put h p f tk g ps S := by
  funext b
  simp only [pu, put]
  by_cases e : b = p + 2
  · rw [if_pos e, if_neg (by omega), if_neg (by omega), if_pos e]
  · rw [if_neg e, if_neg e, if_neg e]
theorem pu_3 (g : Nat → Int32) : pu (put h p f tk rt ps S) (p + 3) (iA 7 g) = put h p f tk rt g S := by
  funext b
  simp only [pu, put]
  by_cases e : b = p + 3
  · rw [if_pos e, if_neg (by omega), if_neg (by omega), if_neg (by omega), if_pos e]
  · rw [if_neg e, if_neg e, if_neg e]
theorem pu_5 {j : Nat} (hj : has S j) (t : TR) : pu (put h p f tk rt ps S) (p + 5 + j) (tO t) = put h p f tk rt ps (upS S j t) := by
  funext b
  simp only [pu, put]
  rw [upS_ref]
  by_cases e : b = p + 5 + j
  · subst e
    rw [if_pos rfl, if_neg (by omega), if_neg (by omega), if_neg (by omega), if_neg (by omega), if_neg (by omega), if_pos (by omega), show p + 5 + j - (p + 5) = j by omega, lk_up, if_pos rfl, if_pos (show (lk S j).isSome = true from hj)]
  · rw [if_neg e, lk_up]
    by_cases c : p + 5 ≤ b
    · rw [if_neg (by omega : ¬ b - (p + 5) = j)]
    · rw [if_neg c, if_neg c]
end PUT2
