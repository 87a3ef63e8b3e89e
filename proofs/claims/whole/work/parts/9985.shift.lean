/-! an instruction that is read in a short window is read so in the whole code -/
def dpick {x : Jvm.ClassFile.Decoder Instr} {f : Nat → Jvm.ClassFile.Decoder Instr} (_ : x = (Jvm.ClassFile.Reader.u1 >>= f)) : Nat → Jvm.ClassFile.Decoder Instr := f
def dbody (pc : Nat) : Nat → Jvm.ClassFile.Decoder Instr := dpick (x := Jvm.ClassFile.Decoder.instr pc) rfl
theorem dbody_eq (pc : Nat) : Jvm.ClassFile.Decoder.instr pc = (Jvm.ClassFile.Reader.u1 >>= dbody pc) := rfl
/-- the bytes of w stand in the code from d on -/
def WinAt (w code : ByteArray) (d : Nat) : Prop := ∀ i (h : i < w.size), ∃ h' : d + i < code.size, code[d + i]'h' = w[i]
/-- what is read in the window is read in the code -/
def ShAt {α : Type} (w code : ByteArray) (d : Nat) (r q : Jvm.ClassFile.Decoder α) : Prop := ∀ (p : Nat) (v : α) (e : Nat), r w p = .ok (v, e) → q code (d + p) = .ok (v, d + e)
theorem bnd_run {α β : Type} (x : Jvm.ClassFile.Decoder α) (f : α → Jvm.ClassFile.Decoder β) (w : ByteArray) (p : Nat) : (x >>= f) w p = (x w p).bind (fun ap => f ap.1 w ap.2) := rfl
theorem sh_pure {α : Type} {w code : ByteArray} {d : Nat} (a : α) : ShAt w code d (pure a) (pure a) := by
  intro p v e h
  have h2 : (Except.ok (a, p) : Except Jvm.ClassFile.DecodeError (α × Nat)) = .ok (v, e) := h
  cases h2
  rfl
theorem sh_bind {α β : Type} {w code : ByteArray} {d : Nat} {x y : Jvm.ClassFile.Decoder α} {f g : α → Jvm.ClassFile.Decoder β} (hx : ShAt w code d x y) (hf : ∀ a, ShAt w code d (f a) (g a)) : ShAt w code d (x >>= f) (y >>= g) := by
  intro p v e h
  rw [bnd_run] at h ⊢
  cases hc : x w p with
  | error z => rw [hc] at h; cases h
  | ok ap =>
    obtain ⟨a, p1⟩ := ap
    rw [hc] at h
    rw [hx p a p1 hc]
    exact hf a p1 v e h
theorem map_run {α β : Type} (g : α → β) (x : Jvm.ClassFile.Decoder α) (w : ByteArray) (p : Nat) : (g <$> x) w p = (x w p).bind (fun ap => .ok (g ap.1, ap.2)) := rfl
theorem sh_map {α β : Type} {w code : ByteArray} {d : Nat} {x y : Jvm.ClassFile.Decoder α} (g : α → β) (hx : ShAt w code d x y) : ShAt w code d (g <$> x) (g <$> y) := by
  intro p v e h
  rw [map_run] at h ⊢
  cases hc : x w p with
  | error z => rw [hc] at h; cases h
  | ok ap =>
    obtain ⟨a, p1⟩ := ap
    rw [hc] at h
    rw [hx p a p1 hc]
    cases h
    rfl
theorem u1_run (w : ByteArray) (p : Nat) : (Jvm.ClassFile.Reader.u1 : Jvm.ClassFile.Decoder Nat) w p = if h : p < w.size then .ok (w[p].toNat, p + 1) else .error (Jvm.ClassFile.HasTruncated.truncated p) := by
  show (if h : p < w.size then (do set (p + 1); pure w[p].toNat : Jvm.ClassFile.Decoder Nat) else throw (Jvm.ClassFile.HasTruncated.truncated p)) w p = _
  split <;> rfl
theorem sh_u1 {w code : ByteArray} {d : Nat} (hw : WinAt w code d) : ShAt w code d Jvm.ClassFile.Reader.u1 Jvm.ClassFile.Reader.u1 := by
  intro p v e h
  rw [u1_run] at h
  split at h
  · rename_i hp
    obtain ⟨h', q⟩ := hw p hp
    cases h
    rw [u1_run, dif_pos h', q]
    rfl
  · cases h
theorem sh_u2 {w code : ByteArray} {d : Nat} (hw : WinAt w code d) : ShAt w code d Jvm.ClassFile.Reader.u2 Jvm.ClassFile.Reader.u2 := sh_bind (sh_u1 hw) (fun _ => sh_bind (sh_u1 hw) (fun _ => sh_pure _))
theorem sh_s1 {w code : ByteArray} {d : Nat} (hw : WinAt w code d) : ShAt w code d Jvm.ClassFile.Reader.s1 Jvm.ClassFile.Reader.s1 := sh_map _ (sh_u1 hw)
theorem sh_s2 {w code : ByteArray} {d : Nat} (hw : WinAt w code d) : ShAt w code d Jvm.ClassFile.Reader.s2 Jvm.ClassFile.Reader.s2 := sh_map _ (sh_u2 hw)
theorem sb1 {w code : ByteArray} {d : Nat} (hw : WinAt w code d) (a b : Nat) : ShAt w code d (dbody a 1) (dbody b 1) := sh_pure _
theorem sb2 {w code : ByteArray} {d : Nat} (hw : WinAt w code d) (a b : Nat) : ShAt w code d (dbody a 2) (dbody b 2) := sh_pure _
theorem sb3 {w code : ByteArray} {d : Nat} (hw : WinAt w code d) (a b : Nat) : ShAt w code d (dbody a 3) (dbody b 3) := sh_pure _
theorem sb4 {w code : ByteArray} {d : Nat} (hw : WinAt w code d) (a b : Nat) : ShAt w code d (dbody a 4) (dbody b 4) := sh_pure _
theorem sb5 {w code : ByteArray} {d : Nat} (hw : WinAt w code d) (a b : Nat) : ShAt w code d (dbody a 5) (dbody b 5) := sh_pure _
theorem sb6 {w code : ByteArray} {d : Nat} (hw : WinAt w code d) (a b : Nat) : ShAt w code d (dbody a 6) (dbody b 6) := sh_pure _
theorem sb7 {w code : ByteArray} {d : Nat} (hw : WinAt w code d) (a b : Nat) : ShAt w code d (dbody a 7) (dbody b 7) := sh_pure _
theorem sb8 {w code : ByteArray} {d : Nat} (hw : WinAt w code d) (a b : Nat) : ShAt w code d (dbody a 8) (dbody b 8) := sh_pure _
theorem sb9 {w code : ByteArray} {d : Nat} (hw : WinAt w code d) (a b : Nat) : ShAt w code d (dbody a 9) (dbody b 9) := sh_pure _
theorem sb10 {w code : ByteArray} {d : Nat} (hw : WinAt w code d) (a b : Nat) : ShAt w code d (dbody a 10) (dbody b 10) := sh_pure _
theorem sb11 {w code : ByteArray} {d : Nat} (hw : WinAt w code d) (a b : Nat) : ShAt w code d (dbody a 11) (dbody b 11) := sh_pure _
theorem sb12 {w code : ByteArray} {d : Nat} (hw : WinAt w code d) (a b : Nat) : ShAt w code d (dbody a 12) (dbody b 12) := sh_pure _
theorem sb13 {w code : ByteArray} {d : Nat} (hw : WinAt w code d) (a b : Nat) : ShAt w code d (dbody a 13) (dbody b 13) := sh_pure _
theorem sb14 {w code : ByteArray} {d : Nat} (hw : WinAt w code d) (a b : Nat) : ShAt w code d (dbody a 14) (dbody b 14) := sh_pure _
theorem sb15 {w code : ByteArray} {d : Nat} (hw : WinAt w code d) (a b : Nat) : ShAt w code d (dbody a 15) (dbody b 15) := sh_pure _
theorem sb16 {w code : ByteArray} {d : Nat} (hw : WinAt w code d) (a b : Nat) : ShAt w code d (dbody a 16) (dbody b 16) := sh_bind (sh_s1 hw) (fun _ => sh_pure _)
theorem sb17 {w code : ByteArray} {d : Nat} (hw : WinAt w code d) (a b : Nat) : ShAt w code d (dbody a 17) (dbody b 17) := sh_bind (sh_s2 hw) (fun _ => sh_pure _)
theorem sb18 {w code : ByteArray} {d : Nat} (hw : WinAt w code d) (a b : Nat) : ShAt w code d (dbody a 18) (dbody b 18) := sh_bind (sh_u1 hw) (fun _ => sh_pure _)
theorem sb20 {w code : ByteArray} {d : Nat} (hw : WinAt w code d) (a b : Nat) : ShAt w code d (dbody a 20) (dbody b 20) := sh_bind (sh_u2 hw) (fun _ => sh_pure _)
theorem sb21 {w code : ByteArray} {d : Nat} (hw : WinAt w code d) (a b : Nat) : ShAt w code d (dbody a 21) (dbody b 21) := sh_bind (sh_u1 hw) (fun _ => sh_pure _)
theorem sb22 {w code : ByteArray} {d : Nat} (hw : WinAt w code d) (a b : Nat) : ShAt w code d (dbody a 22) (dbody b 22) := sh_bind (sh_u1 hw) (fun _ => sh_pure _)
theorem sb23 {w code : ByteArray} {d : Nat} (hw : WinAt w code d) (a b : Nat) : ShAt w code d (dbody a 23) (dbody b 23) := sh_bind (sh_u1 hw) (fun _ => sh_pure _)
theorem sb24 {w code : ByteArray} {d : Nat} (hw : WinAt w code d) (a b : Nat) : ShAt w code d (dbody a 24) (dbody b 24) := sh_bind (sh_u1 hw) (fun _ => sh_pure _)
theorem sb25 {w code : ByteArray} {d : Nat} (hw : WinAt w code d) (a b : Nat) : ShAt w code d (dbody a 25) (dbody b 25) := sh_bind (sh_u1 hw) (fun _ => sh_pure _)
theorem sb26 {w code : ByteArray} {d : Nat} (hw : WinAt w code d) (a b : Nat) : ShAt w code d (dbody a 26) (dbody b 26) := sh_pure _
theorem sb27 {w code : ByteArray} {d : Nat} (hw : WinAt w code d) (a b : Nat) : ShAt w code d (dbody a 27) (dbody b 27) := sh_pure _
theorem sb28 {w code : ByteArray} {d : Nat} (hw : WinAt w code d) (a b : Nat) : ShAt w code d (dbody a 28) (dbody b 28) := sh_pure _
theorem sb29 {w code : ByteArray} {d : Nat} (hw : WinAt w code d) (a b : Nat) : ShAt w code d (dbody a 29) (dbody b 29) := sh_pure _
theorem sb30 {w code : ByteArray} {d : Nat} (hw : WinAt w code d) (a b : Nat) : ShAt w code d (dbody a 30) (dbody b 30) := sh_pure _
theorem sb31 {w code : ByteArray} {d : Nat} (hw : WinAt w code d) (a b : Nat) : ShAt w code d (dbody a 31) (dbody b 31) := sh_pure _
theorem sb32 {w code : ByteArray} {d : Nat} (hw : WinAt w code d) (a b : Nat) : ShAt w code d (dbody a 32) (dbody b 32) := sh_pure _
theorem sb33 {w code : ByteArray} {d : Nat} (hw : WinAt w code d) (a b : Nat) : ShAt w code d (dbody a 33) (dbody b 33) := sh_pure _
theorem sb42 {w code : ByteArray} {d : Nat} (hw : WinAt w code d) (a b : Nat) : ShAt w code d (dbody a 42) (dbody b 42) := sh_pure _
theorem sb43 {w code : ByteArray} {d : Nat} (hw : WinAt w code d) (a b : Nat) : ShAt w code d (dbody a 43) (dbody b 43) := sh_pure _
theorem sb44 {w code : ByteArray} {d : Nat} (hw : WinAt w code d) (a b : Nat) : ShAt w code d (dbody a 44) (dbody b 44) := sh_pure _
theorem sb45 {w code : ByteArray} {d : Nat} (hw : WinAt w code d) (a b : Nat) : ShAt w code d (dbody a 45) (dbody b 45) := sh_pure _
theorem sb46 {w code : ByteArray} {d : Nat} (hw : WinAt w code d) (a b : Nat) : ShAt w code d (dbody a 46) (dbody b 46) := sh_pure _
theorem sb47 {w code : ByteArray} {d : Nat} (hw : WinAt w code d) (a b : Nat) : ShAt w code d (dbody a 47) (dbody b 47) := sh_pure _
theorem sb49 {w code : ByteArray} {d : Nat} (hw : WinAt w code d) (a b : Nat) : ShAt w code d (dbody a 49) (dbody b 49) := sh_pure _
theorem sb50 {w code : ByteArray} {d : Nat} (hw : WinAt w code d) (a b : Nat) : ShAt w code d (dbody a 50) (dbody b 50) := sh_pure _
theorem sb51 {w code : ByteArray} {d : Nat} (hw : WinAt w code d) (a b : Nat) : ShAt w code d (dbody a 51) (dbody b 51) := sh_pure _
theorem sb52 {w code : ByteArray} {d : Nat} (hw : WinAt w code d) (a b : Nat) : ShAt w code d (dbody a 52) (dbody b 52) := sh_pure _
theorem sb54 {w code : ByteArray} {d : Nat} (hw : WinAt w code d) (a b : Nat) : ShAt w code d (dbody a 54) (dbody b 54) := sh_bind (sh_u1 hw) (fun _ => sh_pure _)
theorem sb56 {w code : ByteArray} {d : Nat} (hw : WinAt w code d) (a b : Nat) : ShAt w code d (dbody a 56) (dbody b 56) := sh_bind (sh_u1 hw) (fun _ => sh_pure _)
theorem sb57 {w code : ByteArray} {d : Nat} (hw : WinAt w code d) (a b : Nat) : ShAt w code d (dbody a 57) (dbody b 57) := sh_bind (sh_u1 hw) (fun _ => sh_pure _)
theorem sb58 {w code : ByteArray} {d : Nat} (hw : WinAt w code d) (a b : Nat) : ShAt w code d (dbody a 58) (dbody b 58) := sh_bind (sh_u1 hw) (fun _ => sh_pure _)
theorem sb59 {w code : ByteArray} {d : Nat} (hw : WinAt w code d) (a b : Nat) : ShAt w code d (dbody a 59) (dbody b 59) := sh_pure _
theorem sb60 {w code : ByteArray} {d : Nat} (hw : WinAt w code d) (a b : Nat) : ShAt w code d (dbody a 60) (dbody b 60) := sh_pure _
theorem sb61 {w code : ByteArray} {d : Nat} (hw : WinAt w code d) (a b : Nat) : ShAt w code d (dbody a 61) (dbody b 61) := sh_pure _
theorem sb62 {w code : ByteArray} {d : Nat} (hw : WinAt w code d) (a b : Nat) : ShAt w code d (dbody a 62) (dbody b 62) := sh_pure _
theorem sb75 {w code : ByteArray} {d : Nat} (hw : WinAt w code d) (a b : Nat) : ShAt w code d (dbody a 75) (dbody b 75) := sh_pure _
theorem sb76 {w code : ByteArray} {d : Nat} (hw : WinAt w code d) (a b : Nat) : ShAt w code d (dbody a 76) (dbody b 76) := sh_pure _
theorem sb77 {w code : ByteArray} {d : Nat} (hw : WinAt w code d) (a b : Nat) : ShAt w code d (dbody a 77) (dbody b 77) := sh_pure _
theorem sb78 {w code : ByteArray} {d : Nat} (hw : WinAt w code d) (a b : Nat) : ShAt w code d (dbody a 78) (dbody b 78) := sh_pure _
theorem sb79 {w code : ByteArray} {d : Nat} (hw : WinAt w code d) (a b : Nat) : ShAt w code d (dbody a 79) (dbody b 79) := sh_pure _
theorem sb80 {w code : ByteArray} {d : Nat} (hw : WinAt w code d) (a b : Nat) : ShAt w code d (dbody a 80) (dbody b 80) := sh_pure _
theorem sb82 {w code : ByteArray} {d : Nat} (hw : WinAt w code d) (a b : Nat) : ShAt w code d (dbody a 82) (dbody b 82) := sh_pure _
theorem sb83 {w code : ByteArray} {d : Nat} (hw : WinAt w code d) (a b : Nat) : ShAt w code d (dbody a 83) (dbody b 83) := sh_pure _
theorem sb84 {w code : ByteArray} {d : Nat} (hw : WinAt w code d) (a b : Nat) : ShAt w code d (dbody a 84) (dbody b 84) := sh_pure _
theorem sb85 {w code : ByteArray} {d : Nat} (hw : WinAt w code d) (a b : Nat) : ShAt w code d (dbody a 85) (dbody b 85) := sh_pure _
theorem sb87 {w code : ByteArray} {d : Nat} (hw : WinAt w code d) (a b : Nat) : ShAt w code d (dbody a 87) (dbody b 87) := sh_pure _
theorem sb89 {w code : ByteArray} {d : Nat} (hw : WinAt w code d) (a b : Nat) : ShAt w code d (dbody a 89) (dbody b 89) := sh_pure _
theorem sb90 {w code : ByteArray} {d : Nat} (hw : WinAt w code d) (a b : Nat) : ShAt w code d (dbody a 90) (dbody b 90) := sh_pure _
theorem sb92 {w code : ByteArray} {d : Nat} (hw : WinAt w code d) (a b : Nat) : ShAt w code d (dbody a 92) (dbody b 92) := sh_pure _
theorem sb96 {w code : ByteArray} {d : Nat} (hw : WinAt w code d) (a b : Nat) : ShAt w code d (dbody a 96) (dbody b 96) := sh_pure _
theorem sb97 {w code : ByteArray} {d : Nat} (hw : WinAt w code d) (a b : Nat) : ShAt w code d (dbody a 97) (dbody b 97) := sh_pure _
theorem sb100 {w code : ByteArray} {d : Nat} (hw : WinAt w code d) (a b : Nat) : ShAt w code d (dbody a 100) (dbody b 100) := sh_pure _
theorem sb104 {w code : ByteArray} {d : Nat} (hw : WinAt w code d) (a b : Nat) : ShAt w code d (dbody a 104) (dbody b 104) := sh_pure _
theorem sb108 {w code : ByteArray} {d : Nat} (hw : WinAt w code d) (a b : Nat) : ShAt w code d (dbody a 108) (dbody b 108) := sh_pure _
theorem sb110 {w code : ByteArray} {d : Nat} (hw : WinAt w code d) (a b : Nat) : ShAt w code d (dbody a 110) (dbody b 110) := sh_pure _
theorem sb111 {w code : ByteArray} {d : Nat} (hw : WinAt w code d) (a b : Nat) : ShAt w code d (dbody a 111) (dbody b 111) := sh_pure _
theorem sb112 {w code : ByteArray} {d : Nat} (hw : WinAt w code d) (a b : Nat) : ShAt w code d (dbody a 112) (dbody b 112) := sh_pure _
theorem sb116 {w code : ByteArray} {d : Nat} (hw : WinAt w code d) (a b : Nat) : ShAt w code d (dbody a 116) (dbody b 116) := sh_pure _
theorem sb120 {w code : ByteArray} {d : Nat} (hw : WinAt w code d) (a b : Nat) : ShAt w code d (dbody a 120) (dbody b 120) := sh_pure _
theorem sb122 {w code : ByteArray} {d : Nat} (hw : WinAt w code d) (a b : Nat) : ShAt w code d (dbody a 122) (dbody b 122) := sh_pure _
theorem sb126 {w code : ByteArray} {d : Nat} (hw : WinAt w code d) (a b : Nat) : ShAt w code d (dbody a 126) (dbody b 126) := sh_pure _
theorem sb130 {w code : ByteArray} {d : Nat} (hw : WinAt w code d) (a b : Nat) : ShAt w code d (dbody a 130) (dbody b 130) := sh_pure _
theorem sb132 {w code : ByteArray} {d : Nat} (hw : WinAt w code d) (a b : Nat) : ShAt w code d (dbody a 132) (dbody b 132) := sh_bind (sh_u1 hw) (fun _ => sh_bind (sh_s1 hw) (fun _ => sh_pure _))
theorem sb133 {w code : ByteArray} {d : Nat} (hw : WinAt w code d) (a b : Nat) : ShAt w code d (dbody a 133) (dbody b 133) := sh_pure _
theorem sb134 {w code : ByteArray} {d : Nat} (hw : WinAt w code d) (a b : Nat) : ShAt w code d (dbody a 134) (dbody b 134) := sh_pure _
theorem sb135 {w code : ByteArray} {d : Nat} (hw : WinAt w code d) (a b : Nat) : ShAt w code d (dbody a 135) (dbody b 135) := sh_pure _
theorem sb138 {w code : ByteArray} {d : Nat} (hw : WinAt w code d) (a b : Nat) : ShAt w code d (dbody a 138) (dbody b 138) := sh_pure _
theorem sb141 {w code : ByteArray} {d : Nat} (hw : WinAt w code d) (a b : Nat) : ShAt w code d (dbody a 141) (dbody b 141) := sh_pure _
theorem sb145 {w code : ByteArray} {d : Nat} (hw : WinAt w code d) (a b : Nat) : ShAt w code d (dbody a 145) (dbody b 145) := sh_pure _
theorem sb146 {w code : ByteArray} {d : Nat} (hw : WinAt w code d) (a b : Nat) : ShAt w code d (dbody a 146) (dbody b 146) := sh_pure _
theorem sb148 {w code : ByteArray} {d : Nat} (hw : WinAt w code d) (a b : Nat) : ShAt w code d (dbody a 148) (dbody b 148) := sh_pure _
theorem sb149 {w code : ByteArray} {d : Nat} (hw : WinAt w code d) (a b : Nat) : ShAt w code d (dbody a 149) (dbody b 149) := sh_pure _
theorem sb150 {w code : ByteArray} {d : Nat} (hw : WinAt w code d) (a b : Nat) : ShAt w code d (dbody a 150) (dbody b 150) := sh_pure _
theorem sb151 {w code : ByteArray} {d : Nat} (hw : WinAt w code d) (a b : Nat) : ShAt w code d (dbody a 151) (dbody b 151) := sh_pure _
theorem sb152 {w code : ByteArray} {d : Nat} (hw : WinAt w code d) (a b : Nat) : ShAt w code d (dbody a 152) (dbody b 152) := sh_pure _
theorem sb153 {w code : ByteArray} {d : Nat} (hw : WinAt w code d) (a b : Nat) : ShAt w code d (dbody a 153) (dbody b 153) := sh_bind (sh_s2 hw) (fun _ => sh_pure _)
theorem sb154 {w code : ByteArray} {d : Nat} (hw : WinAt w code d) (a b : Nat) : ShAt w code d (dbody a 154) (dbody b 154) := sh_bind (sh_s2 hw) (fun _ => sh_pure _)
theorem sb155 {w code : ByteArray} {d : Nat} (hw : WinAt w code d) (a b : Nat) : ShAt w code d (dbody a 155) (dbody b 155) := sh_bind (sh_s2 hw) (fun _ => sh_pure _)
theorem sb156 {w code : ByteArray} {d : Nat} (hw : WinAt w code d) (a b : Nat) : ShAt w code d (dbody a 156) (dbody b 156) := sh_bind (sh_s2 hw) (fun _ => sh_pure _)
theorem sb157 {w code : ByteArray} {d : Nat} (hw : WinAt w code d) (a b : Nat) : ShAt w code d (dbody a 157) (dbody b 157) := sh_bind (sh_s2 hw) (fun _ => sh_pure _)
theorem sb158 {w code : ByteArray} {d : Nat} (hw : WinAt w code d) (a b : Nat) : ShAt w code d (dbody a 158) (dbody b 158) := sh_bind (sh_s2 hw) (fun _ => sh_pure _)
theorem sb159 {w code : ByteArray} {d : Nat} (hw : WinAt w code d) (a b : Nat) : ShAt w code d (dbody a 159) (dbody b 159) := sh_bind (sh_s2 hw) (fun _ => sh_pure _)
theorem sb160 {w code : ByteArray} {d : Nat} (hw : WinAt w code d) (a b : Nat) : ShAt w code d (dbody a 160) (dbody b 160) := sh_bind (sh_s2 hw) (fun _ => sh_pure _)
theorem sb161 {w code : ByteArray} {d : Nat} (hw : WinAt w code d) (a b : Nat) : ShAt w code d (dbody a 161) (dbody b 161) := sh_bind (sh_s2 hw) (fun _ => sh_pure _)
theorem sb162 {w code : ByteArray} {d : Nat} (hw : WinAt w code d) (a b : Nat) : ShAt w code d (dbody a 162) (dbody b 162) := sh_bind (sh_s2 hw) (fun _ => sh_pure _)
theorem sb163 {w code : ByteArray} {d : Nat} (hw : WinAt w code d) (a b : Nat) : ShAt w code d (dbody a 163) (dbody b 163) := sh_bind (sh_s2 hw) (fun _ => sh_pure _)
theorem sb164 {w code : ByteArray} {d : Nat} (hw : WinAt w code d) (a b : Nat) : ShAt w code d (dbody a 164) (dbody b 164) := sh_bind (sh_s2 hw) (fun _ => sh_pure _)
theorem sb165 {w code : ByteArray} {d : Nat} (hw : WinAt w code d) (a b : Nat) : ShAt w code d (dbody a 165) (dbody b 165) := sh_bind (sh_s2 hw) (fun _ => sh_pure _)
theorem sb166 {w code : ByteArray} {d : Nat} (hw : WinAt w code d) (a b : Nat) : ShAt w code d (dbody a 166) (dbody b 166) := sh_bind (sh_s2 hw) (fun _ => sh_pure _)
theorem sb167 {w code : ByteArray} {d : Nat} (hw : WinAt w code d) (a b : Nat) : ShAt w code d (dbody a 167) (dbody b 167) := sh_bind (sh_s2 hw) (fun _ => sh_pure _)
theorem sb172 {w code : ByteArray} {d : Nat} (hw : WinAt w code d) (a b : Nat) : ShAt w code d (dbody a 172) (dbody b 172) := sh_pure _
theorem sb173 {w code : ByteArray} {d : Nat} (hw : WinAt w code d) (a b : Nat) : ShAt w code d (dbody a 173) (dbody b 173) := sh_pure _
theorem sb174 {w code : ByteArray} {d : Nat} (hw : WinAt w code d) (a b : Nat) : ShAt w code d (dbody a 174) (dbody b 174) := sh_pure _
theorem sb175 {w code : ByteArray} {d : Nat} (hw : WinAt w code d) (a b : Nat) : ShAt w code d (dbody a 175) (dbody b 175) := sh_pure _
theorem sb176 {w code : ByteArray} {d : Nat} (hw : WinAt w code d) (a b : Nat) : ShAt w code d (dbody a 176) (dbody b 176) := sh_pure _
theorem sb177 {w code : ByteArray} {d : Nat} (hw : WinAt w code d) (a b : Nat) : ShAt w code d (dbody a 177) (dbody b 177) := sh_pure _
theorem sb178 {w code : ByteArray} {d : Nat} (hw : WinAt w code d) (a b : Nat) : ShAt w code d (dbody a 178) (dbody b 178) := sh_bind (sh_u2 hw) (fun _ => sh_pure _)
theorem sb180 {w code : ByteArray} {d : Nat} (hw : WinAt w code d) (a b : Nat) : ShAt w code d (dbody a 180) (dbody b 180) := sh_bind (sh_u2 hw) (fun _ => sh_pure _)
theorem sb181 {w code : ByteArray} {d : Nat} (hw : WinAt w code d) (a b : Nat) : ShAt w code d (dbody a 181) (dbody b 181) := sh_bind (sh_u2 hw) (fun _ => sh_pure _)
theorem sb182 {w code : ByteArray} {d : Nat} (hw : WinAt w code d) (a b : Nat) : ShAt w code d (dbody a 182) (dbody b 182) := sh_bind (sh_u2 hw) (fun _ => sh_pure _)
theorem sb183 {w code : ByteArray} {d : Nat} (hw : WinAt w code d) (a b : Nat) : ShAt w code d (dbody a 183) (dbody b 183) := sh_bind (sh_u2 hw) (fun _ => sh_pure _)
theorem sb184 {w code : ByteArray} {d : Nat} (hw : WinAt w code d) (a b : Nat) : ShAt w code d (dbody a 184) (dbody b 184) := sh_bind (sh_u2 hw) (fun _ => sh_pure _)
theorem sb187 {w code : ByteArray} {d : Nat} (hw : WinAt w code d) (a b : Nat) : ShAt w code d (dbody a 187) (dbody b 187) := sh_bind (sh_u2 hw) (fun _ => sh_pure _)
theorem sb189 {w code : ByteArray} {d : Nat} (hw : WinAt w code d) (a b : Nat) : ShAt w code d (dbody a 189) (dbody b 189) := sh_bind (sh_u2 hw) (fun _ => sh_pure _)
theorem sb190 {w code : ByteArray} {d : Nat} (hw : WinAt w code d) (a b : Nat) : ShAt w code d (dbody a 190) (dbody b 190) := sh_pure _
theorem sb191 {w code : ByteArray} {d : Nat} (hw : WinAt w code d) (a b : Nat) : ShAt w code d (dbody a 191) (dbody b 191) := sh_pure _
theorem sb192 {w code : ByteArray} {d : Nat} (hw : WinAt w code d) (a b : Nat) : ShAt w code d (dbody a 192) (dbody b 192) := sh_bind (sh_u2 hw) (fun _ => sh_pure _)
theorem sb198 {w code : ByteArray} {d : Nat} (hw : WinAt w code d) (a b : Nat) : ShAt w code d (dbody a 198) (dbody b 198) := sh_bind (sh_s2 hw) (fun _ => sh_pure _)
theorem sb199 {w code : ByteArray} {d : Nat} (hw : WinAt w code d) (a b : Nat) : ShAt w code d (dbody a 199) (dbody b 199) := sh_bind (sh_s2 hw) (fun _ => sh_pure _)
def opmask : Nat := 0xc1e9f7f0fffff624f44511d11316bdf8007f5efc03fff7fffe
def uops : List Nat := [1, 2, 3, 4, 5, 6, 7, 8, 9, 10, 11, 12, 13, 14, 15, 16, 17, 18, 20, 21, 22, 23, 24, 25, 26, 27, 28, 29, 30, 31, 32, 33, 42, 43, 44, 45, 46, 47, 49, 50, 51, 52, 54, 56, 57, 58, 59, 60, 61, 62, 75, 76, 77, 78, 79, 80, 82, 83, 84, 85, 87, 89, 90, 92, 96, 97, 100, 104, 108, 110, 111, 112, 116, 120, 122, 126, 130, 132, 133, 134, 135, 138, 141, 145, 146, 148, 149, 150, 151, 152, 153, 154, 155, 156, 157, 158, 159, 160, 161, 162, 163, 164, 165, 166, 167, 172, 173, 174, 175, 176, 177, 178, 180, 181, 182, 183, 184, 187, 189, 190, 191, 192, 198, 199]
theorem uops_ok : ∀ op : Fin 256, Nat.testBit opmask op.1 = true → op.1 ∈ uops := by decide +kernel
theorem sb_all {w code : ByteArray} {d : Nat} (hw : WinAt w code d) (a b : Nat) : ∀ op ∈ uops, ShAt w code d (dbody a op) (dbody b op) :=
  List.forall_mem_cons.mpr ⟨sb1 hw a b, List.forall_mem_cons.mpr ⟨sb2 hw a b, List.forall_mem_cons.mpr ⟨sb3 hw a b, List.forall_mem_cons.mpr ⟨sb4 hw a b, List.forall_mem_cons.mpr ⟨sb5 hw a b, List.forall_mem_cons.mpr ⟨sb6 hw a b, List.forall_mem_cons.mpr ⟨sb7 hw a b, List.forall_mem_cons.mpr ⟨sb8 hw a b, List.forall_mem_cons.mpr ⟨sb9 hw a b, List.forall_mem_cons.mpr ⟨sb10 hw a b, List.forall_mem_cons.mpr ⟨sb11 hw a b, List.forall_mem_cons.mpr ⟨sb12 hw a b, List.forall_mem_cons.mpr ⟨sb13 hw a b, List.forall_mem_cons.mpr ⟨sb14 hw a b, List.forall_mem_cons.mpr ⟨sb15 hw a b, List.forall_mem_cons.mpr ⟨sb16 hw a b, List.forall_mem_cons.mpr ⟨sb17 hw a b, List.forall_mem_cons.mpr ⟨sb18 hw a b, List.forall_mem_cons.mpr ⟨sb20 hw a b, List.forall_mem_cons.mpr ⟨sb21 hw a b, List.forall_mem_cons.mpr ⟨sb22 hw a b, List.forall_mem_cons.mpr ⟨sb23 hw a b, List.forall_mem_cons.mpr ⟨sb24 hw a b, List.forall_mem_cons.mpr ⟨sb25 hw a b, List.forall_mem_cons.mpr ⟨sb26 hw a b, List.forall_mem_cons.mpr ⟨sb27 hw a b, List.forall_mem_cons.mpr ⟨sb28 hw a b, List.forall_mem_cons.mpr ⟨sb29 hw a b, List.forall_mem_cons.mpr ⟨sb30 hw a b, List.forall_mem_cons.mpr ⟨sb31 hw a b, List.forall_mem_cons.mpr ⟨sb32 hw a b, List.forall_mem_cons.mpr ⟨sb33 hw a b, List.forall_mem_cons.mpr ⟨sb42 hw a b, List.forall_mem_cons.mpr ⟨sb43 hw a b, List.forall_mem_cons.mpr ⟨sb44 hw a b, List.forall_mem_cons.mpr ⟨sb45 hw a b, List.forall_mem_cons.mpr ⟨sb46 hw a b, List.forall_mem_cons.mpr ⟨sb47 hw a b, List.forall_mem_cons.mpr ⟨sb49 hw a b, List.forall_mem_cons.mpr ⟨sb50 hw a b, List.forall_mem_cons.mpr ⟨sb51 hw a b, List.forall_mem_cons.mpr ⟨sb52 hw a b, List.forall_mem_cons.mpr ⟨sb54 hw a b, List.forall_mem_cons.mpr ⟨sb56 hw a b, List.forall_mem_cons.mpr ⟨sb57 hw a b, List.forall_mem_cons.mpr ⟨sb58 hw a b, List.forall_mem_cons.mpr ⟨sb59 hw a b, List.forall_mem_cons.mpr ⟨sb60 hw a b, List.forall_mem_cons.mpr ⟨sb61 hw a b, List.forall_mem_cons.mpr ⟨sb62 hw a b, List.forall_mem_cons.mpr ⟨sb75 hw a b, List.forall_mem_cons.mpr ⟨sb76 hw a b, List.forall_mem_cons.mpr ⟨sb77 hw a b, List.forall_mem_cons.mpr ⟨sb78 hw a b, List.forall_mem_cons.mpr ⟨sb79 hw a b, List.forall_mem_cons.mpr ⟨sb80 hw a b, List.forall_mem_cons.mpr ⟨sb82 hw a b, List.forall_mem_cons.mpr ⟨sb83 hw a b, List.forall_mem_cons.mpr ⟨sb84 hw a b, List.forall_mem_cons.mpr ⟨sb85 hw a b, List.forall_mem_cons.mpr ⟨sb87 hw a b, List.forall_mem_cons.mpr ⟨sb89 hw a b, List.forall_mem_cons.mpr ⟨sb90 hw a b, List.forall_mem_cons.mpr ⟨sb92 hw a b, List.forall_mem_cons.mpr ⟨sb96 hw a b, List.forall_mem_cons.mpr ⟨sb97 hw a b, List.forall_mem_cons.mpr ⟨sb100 hw a b, List.forall_mem_cons.mpr ⟨sb104 hw a b, List.forall_mem_cons.mpr ⟨sb108 hw a b, List.forall_mem_cons.mpr ⟨sb110 hw a b, List.forall_mem_cons.mpr ⟨sb111 hw a b, List.forall_mem_cons.mpr ⟨sb112 hw a b, List.forall_mem_cons.mpr ⟨sb116 hw a b, List.forall_mem_cons.mpr ⟨sb120 hw a b, List.forall_mem_cons.mpr ⟨sb122 hw a b, List.forall_mem_cons.mpr ⟨sb126 hw a b, List.forall_mem_cons.mpr ⟨sb130 hw a b, List.forall_mem_cons.mpr ⟨sb132 hw a b, List.forall_mem_cons.mpr ⟨sb133 hw a b, List.forall_mem_cons.mpr ⟨sb134 hw a b, List.forall_mem_cons.mpr ⟨sb135 hw a b, List.forall_mem_cons.mpr ⟨sb138 hw a b, List.forall_mem_cons.mpr ⟨sb141 hw a b, List.forall_mem_cons.mpr ⟨sb145 hw a b, List.forall_mem_cons.mpr ⟨sb146 hw a b, List.forall_mem_cons.mpr ⟨sb148 hw a b, List.forall_mem_cons.mpr ⟨sb149 hw a b, List.forall_mem_cons.mpr ⟨sb150 hw a b, List.forall_mem_cons.mpr ⟨sb151 hw a b, List.forall_mem_cons.mpr ⟨sb152 hw a b, List.forall_mem_cons.mpr ⟨sb153 hw a b, List.forall_mem_cons.mpr ⟨sb154 hw a b, List.forall_mem_cons.mpr ⟨sb155 hw a b, List.forall_mem_cons.mpr ⟨sb156 hw a b, List.forall_mem_cons.mpr ⟨sb157 hw a b, List.forall_mem_cons.mpr ⟨sb158 hw a b, List.forall_mem_cons.mpr ⟨sb159 hw a b, List.forall_mem_cons.mpr ⟨sb160 hw a b, List.forall_mem_cons.mpr ⟨sb161 hw a b, List.forall_mem_cons.mpr ⟨sb162 hw a b, List.forall_mem_cons.mpr ⟨sb163 hw a b, List.forall_mem_cons.mpr ⟨sb164 hw a b, List.forall_mem_cons.mpr ⟨sb165 hw a b, List.forall_mem_cons.mpr ⟨sb166 hw a b, List.forall_mem_cons.mpr ⟨sb167 hw a b, List.forall_mem_cons.mpr ⟨sb172 hw a b, List.forall_mem_cons.mpr ⟨sb173 hw a b, List.forall_mem_cons.mpr ⟨sb174 hw a b, List.forall_mem_cons.mpr ⟨sb175 hw a b, List.forall_mem_cons.mpr ⟨sb176 hw a b, List.forall_mem_cons.mpr ⟨sb177 hw a b, List.forall_mem_cons.mpr ⟨sb178 hw a b, List.forall_mem_cons.mpr ⟨sb180 hw a b, List.forall_mem_cons.mpr ⟨sb181 hw a b, List.forall_mem_cons.mpr ⟨sb182 hw a b, List.forall_mem_cons.mpr ⟨sb183 hw a b, List.forall_mem_cons.mpr ⟨sb184 hw a b, List.forall_mem_cons.mpr ⟨sb187 hw a b, List.forall_mem_cons.mpr ⟨sb189 hw a b, List.forall_mem_cons.mpr ⟨sb190 hw a b, List.forall_mem_cons.mpr ⟨sb191 hw a b, List.forall_mem_cons.mpr ⟨sb192 hw a b, List.forall_mem_cons.mpr ⟨sb198 hw a b, List.forall_mem_cons.mpr ⟨sb199 hw a b, List.forall_mem_nil _⟩⟩⟩⟩⟩⟩⟩⟩⟩⟩⟩⟩⟩⟩⟩⟩⟩⟩⟩⟩⟩⟩⟩⟩⟩⟩⟩⟩⟩⟩⟩⟩⟩⟩⟩⟩⟩⟩⟩⟩⟩⟩⟩⟩⟩⟩⟩⟩⟩⟩⟩⟩⟩⟩⟩⟩⟩⟩⟩⟩⟩⟩⟩⟩⟩⟩⟩⟩⟩⟩⟩⟩⟩⟩⟩⟩⟩⟩⟩⟩⟩⟩⟩⟩⟩⟩⟩⟩⟩⟩⟩⟩⟩⟩⟩⟩⟩⟩⟩⟩⟩⟩⟩⟩⟩⟩⟩⟩⟩⟩⟩⟩⟩⟩⟩⟩⟩⟩⟩⟩⟩⟩⟩⟩
theorem decode_move {w code : ByteArray} {d : Nat} (hw : WinAt w code d) {b : UInt8} (hz : 0 < w.size) (hb : w[0] = b) (ho : Nat.testBit opmask b.toNat = true) {i : Instr} {n : Nat} (h : decode w 0 = .ok (i, n)) : decode code d = .ok (i, n) := by
  have hin : b.toNat ∈ uops := uops_ok ⟨b.toNat, b.toNat_lt⟩ ho
  have e1 : decode w 0 = ((Jvm.ClassFile.Decoder.instr 0) w 0).bind (fun ap => .ok (ap.1, ap.2 - 0)) := rfl
  have e2 : decode code d = ((Jvm.ClassFile.Decoder.instr d) code d).bind (fun ap => .ok (ap.1, ap.2 - d)) := rfl
  rw [e1] at h
  cases hc : (Jvm.ClassFile.Decoder.instr 0) w 0 with
  | error z => rw [hc] at h; cases h
  | ok ap =>
    obtain ⟨j, q⟩ := ap
    rw [hc] at h
    have hj : j = i ∧ q = n := by cases h; exact ⟨rfl, rfl⟩
    rw [dbody_eq, bnd_run, u1_run, dif_pos hz, hb] at hc
    have hs := sb_all hw 0 d b.toNat hin 1 j q hc
    obtain ⟨h0, hq⟩ := hw 0 hz
    have hi : (Jvm.ClassFile.Decoder.instr d) code d = .ok (j, d + q) := by
      rw [dbody_eq, bnd_run, u1_run]
      have h0' : d < code.size := h0
      rw [dif_pos h0']
      have hb' : code[d] = b := hq.trans hb
      rw [hb']
      exact hs
    rw [e2, hi]
    show Except.ok (j, d + q - d) = Except.ok (i, n)
    rw [Nat.add_sub_cancel_left, hj.1, hj.2]
/-- five bytes of a list -/
def winL (bs : List UInt8) : ByteArray := ⟨⟨bs.take 5⟩⟩
theorem winL_at (code : ByteArray) (d : Nat) : WinAt (winL (code.data.toList.drop d)) code d := by
  intro i h
  have h1 : i < ((code.data.toList.drop d).take 5).length := h
  have h2 : i < 5 ∧ d + i < code.data.toList.length := by
    rw [List.length_take, List.length_drop] at h1
    omega
  refine ⟨h2.2, ?_⟩
  show code.data.toList[d + i]'h2.2 = ((code.data.toList.drop d).take 5)[i]'h1
  rw [List.getElem_take, List.getElem_drop]
