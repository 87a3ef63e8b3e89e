/-! the whole machine follows the pure one -/
section MAIN
variable {G : Gw} {p : Program} {l : Launch} {e : Env} {R : Room} {s : State} {m : MethodId} {args : Array Value} {below : List Frame} {meth : Method} {c : Code} {H : Heap} {locs : List Loc} {cells slots : Nat} {Q : State → Prop}
variable {k pc k' pc' x y z u : Nat} {L L' st st' ms : List Value} {hs hs' : HS} {ρ : Nat → Option Nat} {ls : Array Slot}
theorem dec_of {i : Instr} (h : chkE k pc (i, x, y, z, u) = true) (hi : ∀ d lo hi' o, i ≠ .tableswitch d lo hi' o) : decode (mbytes k) pc = .ok (i, ilen i) ∧ chkR k pc (i, x, y, z, u) = true := by
  unfold chkE at h
  rw [Bool.and_eq_true] at h
  refine ⟨?_, h.2⟩
  have h1 := h.1
  dsimp only at h1
  split at h1
  · exact absurd rfl (hi _ _ _ _)
  · exact of_decide_eq_true h1
set_option maxHeartbeats 4000000 in
theorem step_nx {i : Instr} (C : CX G l k p R s m meth c) (hm : mcode k pc = some (i, x, y, z, u)) (hc : chkE k pc (i, x, y, z, u) = true) (hH : HR G ρ hs H) (hL : LR ρ (gO G) L ls (mmax k)) (hS : SR ρ (gO G) st ms) (hl : ∀ z ∈ locs, gB G ≤ z.base)
    (hrm : cells + (hs'.2.2.1 - hs.2.2.1) ≤ R.cells ∧ slots + (hs'.2.2.2 - hs.2.2.2) ≤ R.slots) (h : stepI k pc L st hs = some (.inr (.inl (k', pc', L', st', hs')))) (K : Kx G p l e R s m args below meth c cells slots Q hs hs' ρ k' pc' L' st') : W p l e R s m args below meth c H locs cells slots Q (F0 m pc ls ms) := by
  cases i
  case aconst_null =>
    obtain ⟨hd, hw⟩ := dec_of hc (fun _ _ _ _ q => nomatch q)
    exact s_null C hm hd hw hH hL hS hl h K
  case iconst n =>
    obtain ⟨hd, hw⟩ := dec_of hc (fun _ _ _ _ q => nomatch q)
    exact s_iconst C hm hd hw hH hL hS hl h K
  case bipush n =>
    obtain ⟨hd, hw⟩ := dec_of hc (fun _ _ _ _ q => nomatch q)
    exact s_bipush C hm hd hw hH hL hS hl h K
  case sipush n =>
    obtain ⟨hd, hw⟩ := dec_of hc (fun _ _ _ _ q => nomatch q)
    exact s_sipush C hm hd hw hH hL hS hl h K
  case lconst n =>
    obtain ⟨hd, hw⟩ := dec_of hc (fun _ _ _ _ q => nomatch q)
    exact s_lconst C hm hd hw hH hL hS hl h K
  case fconst n =>
    obtain ⟨hd, hw⟩ := dec_of hc (fun _ _ _ _ q => nomatch q)
    exact s_fconst C hm hd hw hH hL hS hl h K
  case dconst n =>
    obtain ⟨hd, hw⟩ := dec_of hc (fun _ _ _ _ q => nomatch q)
    exact s_dconst C hm hd hw hH hL hS hl h K
  case ldc n =>
    obtain ⟨hd, hw⟩ := dec_of hc (fun _ _ _ _ q => nomatch q)
    exact s_ldc C hm hd hw hH hL hS hl h K
  case ldc2_w n =>
    obtain ⟨hd, hw⟩ := dec_of hc (fun _ _ _ _ q => nomatch q)
    exact s_ldc2 C hm hd hw hH hL hS hl h K
  case iload_n n =>
    obtain ⟨hd, hw⟩ := dec_of hc (fun _ _ _ _ q => nomatch q)
    exact s_iload_n C hm hd hw hH hL hS hl h K
  case iload n =>
    obtain ⟨hd, hw⟩ := dec_of hc (fun _ _ _ _ q => nomatch q)
    exact s_iload C hm hd hw hH hL hS hl h K
  case lload_n n =>
    obtain ⟨hd, hw⟩ := dec_of hc (fun _ _ _ _ q => nomatch q)
    exact s_lload_n C hm hd hw hH hL hS hl h K
  case lload n =>
    obtain ⟨hd, hw⟩ := dec_of hc (fun _ _ _ _ q => nomatch q)
    exact s_lload C hm hd hw hH hL hS hl h K
  case fload n =>
    obtain ⟨hd, hw⟩ := dec_of hc (fun _ _ _ _ q => nomatch q)
    exact s_fload C hm hd hw hH hL hS hl h K
  case dload n =>
    obtain ⟨hd, hw⟩ := dec_of hc (fun _ _ _ _ q => nomatch q)
    exact s_dload C hm hd hw hH hL hS hl h K
  case aload_n n =>
    obtain ⟨hd, hw⟩ := dec_of hc (fun _ _ _ _ q => nomatch q)
    exact s_aload_n C hm hd hw hH hL hS hl h K
  case aload n =>
    obtain ⟨hd, hw⟩ := dec_of hc (fun _ _ _ _ q => nomatch q)
    exact s_aload C hm hd hw hH hL hS hl h K
  case istore_n n =>
    obtain ⟨hd, hw⟩ := dec_of hc (fun _ _ _ _ q => nomatch q)
    exact s_istore_n C hm hd hw hH hL hS hl h K
  case istore n =>
    obtain ⟨hd, hw⟩ := dec_of hc (fun _ _ _ _ q => nomatch q)
    exact s_istore C hm hd hw hH hL hS hl h K
  case fstore n =>
    obtain ⟨hd, hw⟩ := dec_of hc (fun _ _ _ _ q => nomatch q)
    exact s_fstore C hm hd hw hH hL hS hl h K
  case dstore n =>
    obtain ⟨hd, hw⟩ := dec_of hc (fun _ _ _ _ q => nomatch q)
    exact s_dstore C hm hd hw hH hL hS hl h K
  case astore_n n =>
    obtain ⟨hd, hw⟩ := dec_of hc (fun _ _ _ _ q => nomatch q)
    exact s_astore_n C hm hd hw hH hL hS hl h K
  case astore n =>
    obtain ⟨hd, hw⟩ := dec_of hc (fun _ _ _ _ q => nomatch q)
    exact s_astore C hm hd hw hH hL hS hl h K
  case iinc n cc =>
    obtain ⟨hd, hw⟩ := dec_of hc (fun _ _ _ _ q => nomatch q)
    exact s_iinc C hm hd hw hH hL hS hl h K
  case dup =>
    obtain ⟨hd, hw⟩ := dec_of hc (fun _ _ _ _ q => nomatch q)
    exact s_dup C hm hd hw hH hL hS hl h K
  case pop =>
    obtain ⟨hd, hw⟩ := dec_of hc (fun _ _ _ _ q => nomatch q)
    exact s_pop C hm hd hw hH hL hS hl h K
  case dup2 =>
    obtain ⟨hd, hw⟩ := dec_of hc (fun _ _ _ _ q => nomatch q)
    exact s_dup2 C hm hd hw hH hL hS hl h K
  case dup_x1 =>
    obtain ⟨hd, hw⟩ := dec_of hc (fun _ _ _ _ q => nomatch q)
    exact s_dup_x1 C hm hd hw hH hL hS hl h K
  case iadd =>
    obtain ⟨hd, hw⟩ := dec_of hc (fun _ _ _ _ q => nomatch q)
    exact s_iadd C hm hd hw hH hL hS hl h K
  case isub =>
    obtain ⟨hd, hw⟩ := dec_of hc (fun _ _ _ _ q => nomatch q)
    exact s_isub C hm hd hw hH hL hS hl h K
  case imul =>
    obtain ⟨hd, hw⟩ := dec_of hc (fun _ _ _ _ q => nomatch q)
    exact s_imul C hm hd hw hH hL hS hl h K
  case idiv =>
    obtain ⟨hd, hw⟩ := dec_of hc (fun _ _ _ _ q => nomatch q)
    exact s_idiv C hm hd hw hH hL hS hl h K
  case irem =>
    obtain ⟨hd, hw⟩ := dec_of hc (fun _ _ _ _ q => nomatch q)
    exact s_irem C hm hd hw hH hL hS hl h K
  case ineg =>
    obtain ⟨hd, hw⟩ := dec_of hc (fun _ _ _ _ q => nomatch q)
    exact s_ineg C hm hd hw hH hL hS hl h K
  case iand =>
    obtain ⟨hd, hw⟩ := dec_of hc (fun _ _ _ _ q => nomatch q)
    exact s_iand C hm hd hw hH hL hS hl h K
  case ixor =>
    obtain ⟨hd, hw⟩ := dec_of hc (fun _ _ _ _ q => nomatch q)
    exact s_ixor C hm hd hw hH hL hS hl h K
  case ishl =>
    obtain ⟨hd, hw⟩ := dec_of hc (fun _ _ _ _ q => nomatch q)
    exact s_ishl C hm hd hw hH hL hS hl h K
  case ishr =>
    obtain ⟨hd, hw⟩ := dec_of hc (fun _ _ _ _ q => nomatch q)
    exact s_ishr C hm hd hw hH hL hS hl h K
  case ladd =>
    obtain ⟨hd, hw⟩ := dec_of hc (fun _ _ _ _ q => nomatch q)
    exact s_ladd C hm hd hw hH hL hS hl h K
  case i2l =>
    obtain ⟨hd, hw⟩ := dec_of hc (fun _ _ _ _ q => nomatch q)
    exact s_i2l C hm hd hw hH hL hS hl h K
  case i2c =>
    obtain ⟨hd, hw⟩ := dec_of hc (fun _ _ _ _ q => nomatch q)
    exact s_i2c C hm hd hw hH hL hS hl h K
  case i2b =>
    obtain ⟨hd, hw⟩ := dec_of hc (fun _ _ _ _ q => nomatch q)
    exact s_i2b C hm hd hw hH hL hS hl h K
  case i2d =>
    obtain ⟨hd, hw⟩ := dec_of hc (fun _ _ _ _ q => nomatch q)
    exact s_i2d C hm hd hw hH hL hS hl h K
  case l2d =>
    obtain ⟨hd, hw⟩ := dec_of hc (fun _ _ _ _ q => nomatch q)
    exact s_l2d C hm hd hw hH hL hS hl h K
  case i2f =>
    obtain ⟨hd, hw⟩ := dec_of hc (fun _ _ _ _ q => nomatch q)
    exact s_i2f C hm hd hw hH hL hS hl h K
  case fdiv =>
    obtain ⟨hd, hw⟩ := dec_of hc (fun _ _ _ _ q => nomatch q)
    exact s_fdiv C hm hd hw hH hL hS hl h K
  case ddiv =>
    obtain ⟨hd, hw⟩ := dec_of hc (fun _ _ _ _ q => nomatch q)
    exact s_ddiv C hm hd hw hH hL hS hl h K
  case f2d =>
    obtain ⟨hd, hw⟩ := dec_of hc (fun _ _ _ _ q => nomatch q)
    exact s_f2d C hm hd hw hH hL hS hl h K
  case lcmp =>
    obtain ⟨hd, hw⟩ := dec_of hc (fun _ _ _ _ q => nomatch q)
    exact s_lcmp C hm hd hw hH hL hS hl h K
  case fcmp op =>
    obtain ⟨hd, hw⟩ := dec_of hc (fun _ _ _ _ q => nomatch q)
    exact s_fcmp C hm hd hw hH hL hS hl h K
  case dcmp op =>
    obtain ⟨hd, hw⟩ := dec_of hc (fun _ _ _ _ q => nomatch q)
    exact s_dcmp C hm hd hw hH hL hS hl h K
  case goto o =>
    obtain ⟨hd, hw⟩ := dec_of hc (fun _ _ _ _ q => nomatch q)
    exact s_goto C hm hd hw hH hL hS hl h K
  case ifCond cd o =>
    obtain ⟨hd, hw⟩ := dec_of hc (fun _ _ _ _ q => nomatch q)
    exact s_ifCond C hm hd hw hH hL hS hl h K
  case if_icmp cd o =>
    obtain ⟨hd, hw⟩ := dec_of hc (fun _ _ _ _ q => nomatch q)
    exact s_if_icmp C hm hd hw hH hL hS hl h K
  case ifnull o =>
    obtain ⟨hd, hw⟩ := dec_of hc (fun _ _ _ _ q => nomatch q)
    exact s_ifnull C hm hd hw hH hL hS hl h K
  case ifnonnull o =>
    obtain ⟨hd, hw⟩ := dec_of hc (fun _ _ _ _ q => nomatch q)
    exact s_ifnonnull C hm hd hw hH hL hS hl h K
  case if_acmp cd o =>
    obtain ⟨hd, hw⟩ := dec_of hc (fun _ _ _ _ q => nomatch q)
    exact s_if_acmp C hm hd hw hH hL hS hl hrm h K
  case getfield j =>
    obtain ⟨hd, hw⟩ := dec_of hc (fun _ _ _ _ q => nomatch q)
    exact s_getfield C hm hd hw hH hL hS hl hrm h K
  case putfield j =>
    obtain ⟨hd, hw⟩ := dec_of hc (fun _ _ _ _ q => nomatch q)
    exact s_putfield C hm hd hw hH hL hS hl hrm h K
  case getstatic j =>
    obtain ⟨hd, hw⟩ := dec_of hc (fun _ _ _ _ q => nomatch q)
    exact s_getstatic C hm hd hw hH hL hS hl hrm h K
  case new j =>
    obtain ⟨hd, hw⟩ := dec_of hc (fun _ _ _ _ q => nomatch q)
    exact s_new C hm hd hw hH hL hS hl hrm h K
  case newarray at' =>
    obtain ⟨hd, hw⟩ := dec_of hc (fun _ _ _ _ q => nomatch q)
    exact s_newarray C hm hd hw hH hL hS hl hrm h K
  case anewarray j =>
    obtain ⟨hd, hw⟩ := dec_of hc (fun _ _ _ _ q => nomatch q)
    exact s_anewarray C hm hd hw hH hL hS hl hrm h K
  case arraylength =>
    obtain ⟨hd, hw⟩ := dec_of hc (fun _ _ _ _ q => nomatch q)
    exact s_arraylength C hm hd hw hH hL hS hl hrm h K
  case iaload =>
    obtain ⟨hd, hw⟩ := dec_of hc (fun _ _ _ _ q => nomatch q)
    exact s_iaload C hm hd hw hH hL hS hl hrm h K
  case caload =>
    obtain ⟨hd, hw⟩ := dec_of hc (fun _ _ _ _ q => nomatch q)
    exact s_caload C hm hd hw hH hL hS hl hrm h K
  case baload =>
    obtain ⟨hd, hw⟩ := dec_of hc (fun _ _ _ _ q => nomatch q)
    exact s_baload C hm hd hw hH hL hS hl hrm h K
  case laload =>
    obtain ⟨hd, hw⟩ := dec_of hc (fun _ _ _ _ q => nomatch q)
    exact s_laload C hm hd hw hH hL hS hl hrm h K
  case daload =>
    obtain ⟨hd, hw⟩ := dec_of hc (fun _ _ _ _ q => nomatch q)
    exact s_daload C hm hd hw hH hL hS hl hrm h K
  case aaload =>
    obtain ⟨hd, hw⟩ := dec_of hc (fun _ _ _ _ q => nomatch q)
    exact s_aaload C hm hd hw hH hL hS hl hrm h K
  case iastore =>
    obtain ⟨hd, hw⟩ := dec_of hc (fun _ _ _ _ q => nomatch q)
    exact s_iastore C hm hd hw hH hL hS hl hrm h K
  case castore =>
    obtain ⟨hd, hw⟩ := dec_of hc (fun _ _ _ _ q => nomatch q)
    exact s_castore C hm hd hw hH hL hS hl hrm h K
  case bastore =>
    obtain ⟨hd, hw⟩ := dec_of hc (fun _ _ _ _ q => nomatch q)
    exact s_bastore C hm hd hw hH hL hS hl hrm h K
  case lastore =>
    obtain ⟨hd, hw⟩ := dec_of hc (fun _ _ _ _ q => nomatch q)
    exact s_lastore C hm hd hw hH hL hS hl hrm h K
  case dastore =>
    obtain ⟨hd, hw⟩ := dec_of hc (fun _ _ _ _ q => nomatch q)
    exact s_dastore C hm hd hw hH hL hS hl hrm h K
  case aastore =>
    obtain ⟨hd, hw⟩ := dec_of hc (fun _ _ _ _ q => nomatch q)
    exact s_aastore C hm hd hw hH hL hS hl hrm h K
  case tableswitch dd lo hi offs =>
    unfold chkE at hc
    rw [Bool.and_eq_true] at hc
    exact s_tableswitch C hm (of_decide_eq_true hc.1) hc.2 hH hL hS hl h K
  case invokestatic j =>
    obtain ⟨hd, hw⟩ := dec_of hc (fun _ _ _ _ q => nomatch q)
    by_cases h8 : y = 8
    · subst h8; exact s_mmax C hm hd hw hH hL hS hl hrm h K
    by_cases h9 : y = 9
    · subst h9; exact s_mmin C hm hd hw hH hL hS hl hrm h K
    by_cases h10 : y = 10
    · subst h10; exact s_mabs C hm hd hw hH hL hS hl hrm h K
    by_cases h11 : y = 11
    · subst h11; exact s_acp C hm hd hw hH hL hS hl hrm h K
    unfold stepI at h
    rw [hm] at h
    dsimp only at h
    rw [if_neg h8, if_neg h9, if_neg h10, if_neg h11] at h
    have := (cal_inv h).1
    cases this
  case invokespecial j =>
    obtain ⟨hd, hw⟩ := dec_of hc (fun _ _ _ _ q => nomatch q)
    by_cases h7 : y = 7
    · subst h7; exact s_objinit C hm hd hw hH hL hS hl hrm h K
    unfold stepI at h
    rw [hm] at h
    dsimp only at h
    rw [if_neg h7] at h
    split at h
    · split at h
      · have := (cal_inv h).1
        cases this
      · cases h
    · cases h
  case invokevirtual j =>
    unfold stepI at h
    rw [hm] at h
    dsimp only at h
    split at h
    · split at h
      · have := (cal_inv h).1
        cases this
      · cases h
    · cases h
  all_goals
    unfold stepI at h
    rw [hm] at h
    dsimp only at h
    first
      | (cases h; done)
      | ((repeat' split at h) <;> (cases h; done))
set_option maxHeartbeats 4000000 in
theorem step_call {i : Instr} {c' : Cf} {f : Rs → Option (Rs ⊕ Cf)} (C : CX G l k p R s m meth c) (hm : mcode k pc = some (i, x, y, z, u)) (hc : chkE k pc (i, x, y, z, u) = true) (hH : HR G ρ hs H) (hL : LR ρ (gO G) L ls (mmax k)) (hS : SR ρ (gO G) st ms) (hl : ∀ z ∈ locs, gB G ≤ z.base)
    (h : stepI k pc L st hs = some (.inr (.inr (c', f)))) : CallOK G p l e R s m args below meth c H locs cells slots Q k pc L ms hs ρ ls c' f := by
  cases i
  case invokevirtual j =>
    obtain ⟨hd, hw⟩ := dec_of hc (fun _ _ _ _ q => nomatch q)
    exact s_callV C hm hd hw hH hL hS hl h
  case invokestatic j =>
    obtain ⟨hd, hw⟩ := dec_of hc (fun _ _ _ _ q => nomatch q)
    exact s_callS C hm hd hw hH hL hS hl h
  case invokespecial j =>
    obtain ⟨hd, hw⟩ := dec_of hc (fun _ _ _ _ q => nomatch q)
    exact s_callI C hm hd hw hH hL hS hl h
  all_goals
    unfold stepI at h
    rw [hm] at h
    dsimp only at h
    first
      | (cases h; done)
      | (unfold nx at h; cases h; done)
      | ((repeat' split at h) <;> first | (cases h; done) | (unfold nx at h; cases h; done) | (rw [Bool.cond_eq_ite] at h; split at h <;> (unfold nx at h; cases h; done)))
/-- a return, or a throw -/
def RetAt (G : Gw) (k pc : Nat) (v : Option Value) (ρ : Nat → Option Nat) (ms : List Value) : Prop :=
  (∃ a, v = some (.int a) ∧ ms = [.int a] ∧ decode (mbytes k) pc = .ok (.ireturn, 1) ∧ fitp (rtC (mret k)) (.int a) = true) ∨
  (∃ a, v = some (.long a) ∧ ms = [.long a] ∧ decode (mbytes k) pc = .ok (.lreturn, 1) ∧ rtC (mret k) = 4) ∨
  (∃ a, v = some (.float a) ∧ ms = [.float a] ∧ decode (mbytes k) pc = .ok (.freturn, 1) ∧ rtC (mret k) = 6) ∨
  (∃ a, v = some (.double a) ∧ ms = [.double a] ∧ decode (mbytes k) pc = .ok (.dreturn, 1) ∧ rtC (mret k) = 7) ∨
  (∃ a q, v = some (.ref a) ∧ ms = [.ref q] ∧ ρ a = some q ∧ decode (mbytes k) pc = .ok (.areturn, 1) ∧ rtC (mret k) = 5) ∨
  (v = some .null ∧ ms = [.null] ∧ decode (mbytes k) pc = .ok (.areturn, 1) ∧ rtC (mret k) = 5) ∨
  (v = none ∧ ms = [] ∧ decode (mbytes k) pc = .ok (.return_, 1) ∧ mret k = none)
def ThrAt (k pc : Nat) (e : Nat) (st : List Value) : Prop := ∃ j y z u, mcode k pc = some (.new j, 1000 + e, y, z, u) ∧ chkR k pc (.new j, 1000 + e, y, z, u) = true ∧ decode (mbytes k) pc = .ok (.new j, 3) ∧ e < 6 ∧ st.length ≤ 4
set_option maxHeartbeats 4000000 in
theorem step_end {i : Instr} {r : Rs} (hm : mcode k pc = some (i, x, y, z, u)) (hc : chkE k pc (i, x, y, z, u) = true) (hS : SR ρ (gO G) st ms) (h : stepI k pc L st hs = some (.inl r)) :
    (∃ v, r = (.inl v, hs) ∧ RetAt G k pc v ρ ms) ∨ (∃ e', r = (.inr e', hsx hs) ∧ ThrAt k pc e' st) := by
  cases i
  case ireturn =>
    obtain ⟨hd, hw⟩ := dec_of hc (fun _ _ _ _ q => nomatch q)
    unfold stepI at h
    rw [hm] at h
    dsimp only at h
    split at h
    · split at h
      · next a hf =>
        cases h
        obtain ⟨w, ms', rfl, r0, hS0⟩ := hS.cons
        cases r0.int
        rw [hS0.nil]
        exact Or.inl ⟨_, rfl, Or.inl ⟨_, rfl, rfl, hd, hf⟩⟩
      · cases h
    · cases h
  case lreturn =>
    obtain ⟨hd, hw⟩ := dec_of hc (fun _ _ _ _ q => nomatch q)
    unfold stepI at h
    rw [hm] at h
    dsimp only at h
    split at h
    · split at h
      · next a hf =>
        cases h
        obtain ⟨w, ms', rfl, r0, hS0⟩ := hS.cons
        cases r0.long
        rw [hS0.nil]
        exact Or.inl ⟨_, rfl, Or.inr (Or.inl ⟨_, rfl, rfl, hd, hf⟩)⟩
      · cases h
    · cases h
  case freturn =>
    obtain ⟨hd, hw⟩ := dec_of hc (fun _ _ _ _ q => nomatch q)
    unfold stepI at h
    rw [hm] at h
    dsimp only at h
    split at h
    · split at h
      · next a hf =>
        cases h
        obtain ⟨w, ms', rfl, r0, hS0⟩ := hS.cons
        cases r0.float
        rw [hS0.nil]
        exact Or.inl ⟨_, rfl, Or.inr (Or.inr (Or.inl ⟨_, rfl, rfl, hd, hf⟩))⟩
      · cases h
    · cases h
  case dreturn =>
    obtain ⟨hd, hw⟩ := dec_of hc (fun _ _ _ _ q => nomatch q)
    unfold stepI at h
    rw [hm] at h
    dsimp only at h
    split at h
    · split at h
      · next a hf =>
        cases h
        obtain ⟨w, ms', rfl, r0, hS0⟩ := hS.cons
        cases r0.double
        rw [hS0.nil]
        exact Or.inl ⟨_, rfl, Or.inr (Or.inr (Or.inr (Or.inl ⟨_, rfl, rfl, hd, hf⟩)))⟩
      · cases h
    · cases h
  case areturn =>
    obtain ⟨hd, hw⟩ := dec_of hc (fun _ _ _ _ q => nomatch q)
    unfold stepI at h
    rw [hm] at h
    dsimp only at h
    split at h
    · split at h
      · next a hf =>
        cases h
        obtain ⟨w, ms', rfl, r0, hS0⟩ := hS.cons
        obtain ⟨q, hq, rfl⟩ := r0.ref
        rw [hS0.nil]
        exact Or.inl ⟨_, rfl, Or.inr (Or.inr (Or.inr (Or.inr (Or.inl ⟨_, _, rfl, rfl, hq, hd, hf⟩))))⟩
      · cases h
    · split at h
      · next hf =>
        cases h
        obtain ⟨w, ms', rfl, r0, hS0⟩ := hS.cons
        cases r0.null
        rw [hS0.nil]
        exact Or.inl ⟨_, rfl, Or.inr (Or.inr (Or.inr (Or.inr (Or.inr (Or.inl ⟨rfl, rfl, hd, hf⟩)))))⟩
      · cases h
    · cases h
  case return_ =>
    obtain ⟨hd, hw⟩ := dec_of hc (fun _ _ _ _ q => nomatch q)
    unfold stepI at h
    rw [hm] at h
    dsimp only at h
    split at h
    · split at h
      · next hf =>
        cases h
        rw [hS.nil]
        exact Or.inl ⟨_, rfl, Or.inr (Or.inr (Or.inr (Or.inr (Or.inr (Or.inr ⟨rfl, rfl, hd, hf⟩)))))⟩
      · cases h
    · cases h
  case new j =>
    obtain ⟨hd, hw⟩ := dec_of hc (fun _ _ _ _ q => nomatch q)
    unfold stepI at h
    rw [hm] at h
    dsimp only at h
    split at h
    · unfold nx at h; cases h
    · next hx7 =>
      split at h
      · next hst =>
        cases h
        have hlt : Nat.blt x 7 = false := by rw [← Bool.not_eq_true, Nat.blt_eq]; exact hx7
        have hw' := hw
        simp only [chkR, hlt, cond_false, Bool.and_eq_true, Nat.ble_eq, Nat.blt_eq] at hw'
        have hx1 : 1000 ≤ x := hw'.1.1.1.1.1.1
        have hx2 : x < 1006 := hw'.1.1.1.1.1.2
        obtain ⟨e', rfl⟩ : ∃ e', x = 1000 + e' := ⟨x - 1000, by omega⟩
        refine Or.inr ⟨1000 + e' - 1000, rfl, ?_⟩
        rw [Nat.add_sub_cancel_left]
        exact ⟨j, y, z, u, hm, hw, hd, by omega, hst⟩
      · cases h
  all_goals
    unfold stepI at h
    rw [hm] at h
    dsimp only at h
    first
      | (cases h; done)
      | (unfold nx at h; cases h; done)
      | ((repeat' split at h) <;> first | (cases h; done) | (unfold nx at h; cases h; done) | (have := (cal_inv h).1; cases this; done) | (rw [Bool.cond_eq_ite] at h; split at h <;> (unfold nx at h; cases h; done)))
end MAIN
