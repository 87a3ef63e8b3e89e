/-! the reference runs its program -/
theorem spc_sgn {T : Nat → Int32} {n q : Nat} (h : (spc T n q).1 = false) : sgn T n 59 q = false := by
  unfold spc at h
  split at h
  · cases h
  · next hf =>
    have hb := bsF_lt T n q
    have h3 := bg_3 _ hb
    have h4 := bg_le _ hb
    have hle := likN_le T n q _ hb
    have h' : lkn T n q (bg (bsF T n q)) (bg (bsF T n q + 1) - bg (bsF T n q)) 0 = 0 + (bg (bsF T n q + 1) - bg (bsF T n q)) := by
      show likN T n q (bsF T n q) = _
      omega
    have a := lkn_all _ 0 h' 0 (Nat.le_refl _) (by omega)
    have l := lets_ck (bg (bsF T n q)) (by omega)
    simp only [Nat.add_zero] at a
    unfold sgn
    have e : ¬ T q = 59 := fun z => l.2.2 (a.2.symm.trans z)
    simp [e]
theorem spc_le {T : Nat → Int32} {n q : Nat} (h6 : n ≤ 60) (hq : q ≤ 60) : (spc T n q).2.1 ≤ 60 := by
  have z := rdL_ok (T := T) (n := n) (p0 := q) h6 hq forms 0 q (q, (fun _ => 0), 0) hq (Nat.zero_le _)
  have e := (rd_same T n q 0 (fun _ => 0)).2.1
  rw [← e]; exact z.1
/-- m commands are written from place cn on, which stand in the text from q on -/
def stq (T : Nat → Int32) (n : Nat) (C : Nat → Int32) : Nat → Nat → Nat → Prop
  | 0, _, _ => False
  | m + 1, cn, q => (spc T n q).1 = false ∧ C (4 * cn) = I (bsF T n q) ∧ agE (bsF T n q) (C (4 * cn + 1)) (C (4 * cn + 2)) (C (4 * cn + 3)) (spc T n q).2.2.1 (spc T n q).2.2.2.1 (spc T n q).2.2.2.2 ∧ (m = 0 ∨ (sgn T n 59 (spc T n q).2.1 = true ∧ stq T n C m (cn + 1) ((spc T n q).2.1 + 1)))
section MRUN
variable (h : PH) {p : Nat} (g : Nat → Int32) (A : Nat → Nat → Int32) (r : Nat × Nat × Nat)
theorem t231 (hp : 32 ≤ p) {n q cn : Nat} (hn : n ≤ 60) (hq : q ≤ 60) (e19 : g 19 = I n) (e17 : g 17 = I cn) (hc : cn < 60) : ∃ C' cn', rcal 231 [.ref p] (mput h p (gE g false q) A, r) = some (.inl none, (mput h p (gE (up g 17 (I cn')) (spc (A 6) n q).1 (spc (A 6) n q).2.1) (ua A 10 C'), r)) ∧ (∀ x, x < 4 * cn → C' x = A 10 x) ∧ ((spc (A 6) n q).1 = false → cn' = cn + 1 ∧ C' (4 * cn) = I (bsF (A 6) n q) ∧ agE (bsF (A 6) n q) (C' (4 * cn + 1)) (C' (4 * cn + 2)) (C' (4 * cn + 3)) (spc (A 6) n q).2.2.1 (spc (A 6) n q).2.2.2.1 (spc (A 6) n q).2.2.2.2) := by
  have hb := bsF_lt (A 6) n q
  have h3 := bg_3 _ hb
  have hle := likN_le (A 6) n q _ hb
  by_cases hf : likN (A 6) n q (bsF (A 6) n q) < bg (bsF (A 6) n q + 1) - bg (bsF (A 6) n q)
  · have e := m231n h g A r hp (er := false) hn hq e19 e17 hf
    have es : spc (A 6) n q = (true, q + likN (A 6) n q (bsF (A 6) n q), 0, 0, 0) := by unfold spc; rw [if_pos hf]
    rw [es]
    refine ⟨A 10, cn, ?_, fun _ _ => rfl, (fun z => Bool.noConfusion z)⟩
    rw [← e17, up_self, ua_self]
    exact e
  · have es : spc (A 6) n q = arS (A 6) n (bsF (A 6) n q) (q + likN (A 6) n q (bsF (A 6) n q)) := by unfold spc; rw [if_neg hf]
    have hl : q + likN (A 6) n q (bsF (A 6) n q) ≤ 60 := by
      have a := fun h' => lkn_all (f := A 6) (n := n) (q := q) (b := bg (bsF (A 6) n q)) (bg (bsF (A 6) n q + 1) - bg (bsF (A 6) n q)) 0 h' (bg (bsF (A 6) n q + 1) - bg (bsF (A 6) n q) - 1) (Nat.zero_le _) (by omega)
      have b := a (by show likN (A 6) n q (bsF (A 6) n q) = _; omega)
      omega
    have e := fun H' => m231 h g A r hp (er := false) (cn := cn) hn hq e19 e17 hc hf (H' := H')
    rw [es]
    generalize q + likN (A 6) n q (bsF (A 6) n q) = q1 at *
    have g19 : up g 17 (I (cn + 1)) 19 = I n := by rw [up_ne _ _ (by decide)]; exact e19
    have x1 : 4 * cn + 1 < 241 := by omega
    have a6 : ∀ f, ua A 10 f 6 = A 6 := fun f => ua_ne A _ (by decide)
    generalize hB : bsF (A 6) n q = b at *
    unfold arS
    rcases (by omega : 2 < b ∨ b = 0 ∨ b = 1 ∨ b = 2) with h2 | h2 | h2 | h2
    · rw [if_pos h2]
      have t := m230c h (up g 17 (I (cn + 1))) (ua A 10 (up (A 10) (4 * cn) (I b))) r hp h2 hb x1 hn hl g19 (er := false)
      rw [a6, ua_eq, ua_ua] at t
      refine ⟨_, cn + 1, e _ t, fun x hx => ?_, fun _ => ⟨rfl, ?_, ?_, fun z => absurd z (by omega), fun z => absurd z (by omega)⟩⟩
      · rw [up_ne _ _ (by omega), up_ne _ _ (by omega)]
      · rw [up_ne _ _ (by omega), up_eq]
      · exact up_eq _ _ _
    · subst h2
      rw [if_neg (by decide), if_pos rfl]
      have t := m230a h (up g 17 (I (cn + 1))) (ua A 10 (up (A 10) (4 * cn) (I 0))) r hp x1 hn hl g19 (er := false)
      rw [a6, ua_eq, ua_ua] at t
      refine ⟨_, cn + 1, e _ t, fun x hx => ?_, fun _ => ⟨rfl, ?_, ?_, fun _ => ?_, fun z => absurd z (by decide)⟩⟩
      · rw [up_ne _ _ (by omega), up_ne _ _ (by omega), up_ne _ _ (by omega)]
      · rw [up_ne _ _ (by omega), up_ne _ _ (by omega), up_eq]
      · rw [up_ne _ _ (by omega), up_eq]
      · exact up_eq _ _ _
    · subst h2
      rw [if_neg (by decide), if_neg (by decide), if_pos rfl]
      have t := m230b h (up g 17 (I (cn + 1))) (ua A 10 (up (A 10) (4 * cn) (I 1))) r hp x1 hn hl g19 (er := false)
      rw [a6, ua_eq, ua_ua] at t
      refine ⟨_, cn + 1, e _ t, fun x hx => ?_, fun _ => ⟨rfl, ?_, ?_, fun _ => ?_, fun z => absurd z (by decide)⟩⟩
      · rw [up_ne _ _ (by omega), up_ne _ _ (by omega), up_ne _ _ (by omega)]
      · rw [up_ne _ _ (by omega), up_ne _ _ (by omega), up_eq]
      · rw [up_ne _ _ (by omega), up_eq]
      · exact up_eq _ _ _
    · subst h2
      rw [if_neg (by decide), if_neg (by decide), if_neg (by decide)]
      have t := m230t h (up g 17 (I (cn + 1))) (ua A 10 (up (A 10) (4 * cn) (I 2))) r hp x1 hn hl g19 (er := false) rfl rfl rfl rfl
      rw [a6, ua_eq, ua_ua] at t
      refine ⟨_, cn + 1, e _ t, fun x hx => ?_, fun _ => ⟨rfl, ?_, ?_, fun _ => ?_, fun _ => ?_⟩⟩
      · rw [up_ne _ _ (by omega), up_ne _ _ (by omega), up_ne _ _ (by omega), up_ne _ _ (by omega)]
      · rw [up_ne _ _ (by omega), up_ne _ _ (by omega), up_ne _ _ (by omega), up_eq]
      · rw [up_ne _ _ (by omega), up_ne _ _ (by omega), up_eq]
      · rw [up_ne _ _ (by omega), up_eq]
      · exact up_eq _ _ _
end MRUN
section MRUN2
variable (h : PH) {p : Nat} (g : Nat → Int32) (r : Nat × Nat × Nat)
theorem h233 (H : HS) : rn 233 34 [.ref p, .int 0, un, un] [] H = rn 233 92 [.ref p, .int 0, un, un] [] H := by
  rw [x233_34, x233_35, if_pos rfl]
theorem l233 (hp : 32 ≤ p) (A : Nat → Nat → Int32) {n : Nat} (hn : n ≤ 60) (e19 : g 19 = I n) : ∀ (f cn q : Nat) (C : Nat → Int32), 120 ≤ 2 * f + q → 2 * cn ≤ q → q ≤ 60 → ∃ er q' cn' C', rn 233 34 [.ref p, .int 1, un, un] [] (mput h p (gE (up g 17 (I cn)) false q) (ua A 10 C), r) = rn 233 92 [.ref p, .int 0, un, un] [] (mput h p (gE (up g 17 (I cn')) er q') (ua A 10 C'), r) ∧ (∀ x, x < 4 * cn → C' x = C x) ∧ q' ≤ 60 ∧ ∀ (k j : Nat) (s : PS), s.1 = q → (er = true → (feL (A 6) n f k s (5 + j)).1 = I q') ∧ (er = false → (feL (A 6) n f k s (5 + j)).1 = -1 ∧ ∃ m, 1 ≤ m ∧ cn' = cn + m ∧ (feL (A 6) n f k s (5 + j)).2.1 = k + m ∧ q + m ≤ n ∧ stq (A 6) n C' m cn q) := by
  intro f
  induction f with
  | zero => intro cn q C h1 h2 h3; omega
  | succ f ih =>
    intro cn q C h1 h2 h3
    have g19 : up g 17 (I cn) 19 = I n := by rw [up_ne _ _ (by decide)]; exact e19
    obtain ⟨C1, cn1, t1, t2, t3⟩ := t231 h (up g 17 (I cn)) (ua A 10 C) r hp hn h3 g19 (up_eq _ _ _) (by omega)
    rw [ua_ne A _ (show 6 ≠ 10 by decide), up_up, ua_ua] at t1
    rw [ua_eq] at t2
    rw [ua_ne A _ (show 6 ≠ 10 by decide)] at t3
    have hpos := spc_le (T := A 6) hn h3
    have o1 : ¬ (1 : Int32) = 0 := by decide
    have rs := fun a A0 => rd_same (A 6) n q a A0
    generalize hS : spc (A 6) n q = S at *
    obtain ⟨S1, S2, S3⟩ := S
    simp only at t1 t3 hpos rs
    have k20 : ∀ g' b x, gE g' b x 20 = b2i b := gE_20
    have k18 : ∀ g' b x, gE g' b x 18 = I x := gE_18
    have k19 : ∀ x b y, gE (up g 17 x) b y 19 = I n := fun x b y => by rw [gE_o _ _ _ (by decide) (by decide), up_ne _ _ (by decide)]; exact e19
    cases S1 with
    | true =>
      refine ⟨true, S2, cn1, C1, ?_, t2, hpos, fun k j s hs => ⟨fun _ => ?_, (fun z => absurd z (by decide))⟩⟩
      · rw [x233_34, x233_35, if_neg o1]
        simp only [x233_38, x233_39, x233_42, x233_43, x233_46, x233_64, x233_65, x233_66, x233_67, gk_some, pk_some, qk_some, bnd_v, bnd_n, kl_int, kl_ref, kl_null, kl_un, Nat.reduceAdd, if_true, if_false, gm0, gm1, gm2, gm3, gm4, gm5, gm6, gm7, gm8, gm9, gm10, gm11, gm12, gm13, gm14, gm15, gm16, gm17, gm18, gm19, gm20, gm21, gm22, rvM, t1, k20, b2i_t, o1, h233]
      · obtain ⟨sq, sA, sa⟩ := s
        simp only at hs; subst hs
        have z := rs sa sA
        rw [if_pos rfl] at z
        rw [feL]
        simp only [z.1, Option.isSome_none, Bool.false_eq_true, if_false, z.2.1]
    | false =>
      obtain ⟨u1, u2, u3⟩ := t3 rfl
      subst u1
      have rs0 := (rs 0 (fun _ => 0)).2.2 rfl
      by_cases c : S2 < n
      · have a1 : I S2 < I n := (I_lt (by omega) (by omega)).mpr c
        have t4 := t226 h (up g 17 (I (cn + 1))) (ua A 10 C1) r hp (er := false) (q := S2) hn hpos (by rw [up_ne _ _ (by decide)]; exact e19) 59
        rw [ua_ne A _ (show 6 ≠ 10 by decide), show exP (A 6) n S2 false 59 = (if exS (A 6) n S2 false 59 = true then S2 else S2 + 1) from rfl, exS_f (A 6) n S2 (v := 59) (by decide)] at t4
        cases hg : sgn (A 6) n 59 S2 with
        | true =>
          rw [hg] at t4
          simp only [Bool.not_true, Bool.false_eq_true, if_false] at t4
          have sq1 : S2 + 1 ≤ 60 := by
            unfold sgn at hg; simp only [Bool.and_eq_true, decide_eq_true_eq] at hg; omega
          obtain ⟨er, q', cn', C', i1, i2, i3, i4⟩ := ih (cn + 1) (S2 + 1) C1 (by omega) (by omega) sq1
          refine ⟨er, q', cn', C', ?_, fun x hx => (i2 x (by omega)).trans (t2 x hx), i3, fun k j s hs => ?_⟩
          · rw [x233_34, x233_35, if_neg o1]
            simp only [x233_38, x233_39, x233_42, x233_43, x233_46, x233_49, x233_50, x233_53, x233_54, x233_57, x233_60, x233_61, x233_65, x233_66, x233_67, x233_70, x233_71, x233_73, x233_76, x233_77, x233_80, x233_83, x233_84, x233_88, x233_89, gk_some, pk_some, qk_some, bnd_v, bnd_n, kl_int, kl_ref, kl_null, kl_un, Nat.reduceAdd, if_true, if_false, gm0, gm1, gm2, gm3, gm4, gm5, gm6, gm7, gm8, gm9, gm10, gm11, gm12, gm13, gm14, gm15, gm16, gm17, gm18, gm19, gm20, gm21, gm22, rvM, t1, k20, k18, k19, b2i_f, o1, a1, t4]
            exact i1
          · obtain ⟨sq, sA, sa⟩ := s
            simp only at hs; subst hs
            have z := rs sa sA
            rw [if_neg (by decide)] at z
            rw [feL]
            simp only [z.1, Option.isSome_some, if_true, z.2.1, hg]
            rw [show cmR (5 + j) (some (bsF (A 6) n sq)) = 5 + bsF (A 6) n sq from rfl]
            obtain ⟨w1, w2⟩ := i4 (k + 1) (bsF (A 6) n sq) (S2 + 1, (rdL (A 6) n sq forms 0 sq (sq, sA, sa)).2.2) rfl
            refine ⟨w1, fun ee => ?_⟩
            obtain ⟨v1, m, v2, v3, v4, v5, v6⟩ := w2 ee
            refine ⟨v1, m + 1, by omega, by omega, by omega, by omega, ?_⟩
            unfold stq
            rw [hS]
            refine ⟨rfl, ?_, ?_, Or.inr ⟨hg, v6⟩⟩
            · rw [i2 _ (by omega)]; exact u2
            · rw [i2 _ (by omega), i2 _ (by omega), i2 _ (by omega)]; exact u3
        | false =>
          rw [hg] at t4
          simp only [Bool.not_false, if_true] at t4
          refine ⟨true, S2, cn + 1, C1, ?_, t2, hpos, fun k j s hs => ⟨fun _ => ?_, (fun z => absurd z (by decide))⟩⟩
          · rw [x233_34, x233_35, if_neg o1]
            simp only [x233_38, x233_39, x233_42, x233_43, x233_46, x233_49, x233_50, x233_53, x233_54, x233_57, x233_60, x233_61, x233_65, x233_66, x233_67, x233_70, x233_71, x233_73, x233_76, x233_77, x233_80, x233_87, x233_88, x233_89, gk_some, pk_some, qk_some, bnd_v, bnd_n, kl_int, kl_ref, kl_null, kl_un, Nat.reduceAdd, if_true, if_false, gm0, gm1, gm2, gm3, gm4, gm5, gm6, gm7, gm8, gm9, gm10, gm11, gm12, gm13, gm14, gm15, gm16, gm17, gm18, gm19, gm20, gm21, gm22, rvM, t1, k20, k18, k19, b2i_f, b2i_t, o1, a1, t4, h233]
          · obtain ⟨sq, sA, sa⟩ := s
            simp only at hs; subst hs
            have z := rs sa sA
            rw [if_neg (by decide)] at z
            rw [feL]
            simp only [z.1, Option.isSome_some, if_true, z.2.1, hg, Bool.false_eq_true, if_false, feE, c]
      · have a1 : ¬ I S2 < I n := fun y => c ((I_lt (by omega) (by omega)).mp y)
        have hg : sgn (A 6) n 59 S2 = false := by simp [sgn, c]
        refine ⟨false, S2, cn + 1, C1, ?_, t2, hpos, fun k j s hs => ⟨(fun z => absurd z (by decide)), fun _ => ?_⟩⟩
        · rw [x233_34, x233_35, if_neg o1]
          simp only [x233_38, x233_39, x233_42, x233_43, x233_46, x233_49, x233_50, x233_53, x233_54, x233_57, x233_64, x233_65, x233_66, x233_67, gk_some, pk_some, qk_some, bnd_v, bnd_n, kl_int, kl_ref, kl_null, kl_un, Nat.reduceAdd, if_true, if_false, gm0, gm1, gm2, gm3, gm4, gm5, gm6, gm7, gm8, gm9, gm10, gm11, gm12, gm13, gm14, gm15, gm16, gm17, gm18, gm19, gm20, gm21, gm22, rvM, t1, k20, k18, k19, b2i_f, o1, a1, h233]
        · obtain ⟨sq, sA, sa⟩ := s
          simp only at hs; subst hs
          have z := rs sa sA
          rw [if_neg (by decide)] at z
          rw [feL]
          simp only [z.1, Option.isSome_some, if_true, z.2.1, hg, Bool.false_eq_true, if_false, feE, c]
          refine ⟨trivial, 1, by omega, rfl, rfl, by omega, ?_⟩
          unfold stq
          rw [hS]
          exact ⟨rfl, u2, u3, Or.inl rfl⟩
end MRUN2
