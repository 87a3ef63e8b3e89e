/-! the reference's minute -/
def visS (S : List SL) (rk : Nat) : Option SL := (prs S).find? fun s => decide (rkN (prs S) s = rk)
def gmN (f tk rt : Nat → Int32) : Nat → Nat → List SL → List SL
  | 0, _, S => S
  | n + 1, rk, S => match visS S rk with
    | none => S
    | some s => gmN f tk rt n (rk + 1) (go1 f tk rt S s.1)
def gmK (f tk rt : Nat → Int32) : Nat → Nat → List SL → Prop
  | 0, _, _ => True
  | n + 1, rk, S => WS S ∧ ahdK (prs S) ∧ SRT (prs S) ∧ DPK (prs S) ∧ ∃ s, visS S rk = some s ∧ (s.2.1 = 3 → tryM s.2) ∧ gmK f tk rt n (rk + 1) (go1 f tk rt S s.1)
section MMIN2
variable (h : PH) {p : Nat} (g : Nat → Int32) (A : Nat → Nat → Int32) (r : Nat × Nat × Nat) (f tk rt : Nat → Int32)
theorem go_prs {S D R : List SL} {s : SL} (w : WS S) (hP : prs S = D ++ s :: R) : ∃ t : TR, prs (go1 f tk rt S s.1) = D ++ (s.1, t) :: R ∧ t.2 1 = s.2.2 1 ∧ t.2 11 = s.2.2 11 := by
  have hsS := prs_mem (show s ∈ prs S by rw [hP]; simp)
  obtain ⟨D2, R2, h2⟩ := mem_split hsS.1
  have ht := tr_mid w.2.1 h2
  unfold go1
  rw [ht]
  split
  · next hc =>
    unfold try1
    rw [ht]
    split
    · refine ⟨_, prs_up w hP (by show ¬ 4 = 1; decide), ?_, ?_⟩ <;> simp [up]
    · refine ⟨_, prs_up w hP (by show ¬ s.2.1 = 1; rw [hc.1]; decide), ?_, ?_⟩ <;> simp [up]
  · exact ⟨s.2, hP, rfl, rfl⟩
theorem l186 (hp : 32 ≤ p) (c : Nat → Int32) (m : Nat) (hm : m ≤ 12) : ∀ (n rk : Nat) (S : List SL) (a : Nat → Int32) (z1 z2 : Value), n + rk = (prs S).length → MR a f tk rt (prs S) → CR c m (f 7) (prs S) → gmK f tk rt n rk S →
    ∃ a', rn 186 25 [.ref p, .int (I rk), z1, z2] [] (mm h p g A a c m, r) = some (.inl none, (mm h p g A a' c m, r)) ∧ MR a' f tk rt (prs (gmN f tk rt n rk S)) := by
  intro n
  induction n with
  | zero =>
    intro rk S a z1 z2 hl hM hC _
    have : rk = (prs S).length := by omega
    subst this
    refine ⟨a, ?_, hM⟩
    rw [x186_25]
    simp only [x186_0, x186_1, x186_4, x186_5, x186_6, x186_7, x186_8, x186_9, x186_10, x186_11, x186_12, x186_15, x186_16, x186_19, x186_20, x186_23, x186_24, x186_26, x186_27, x186_30, x186_31, x186_32, x186_35, x186_36, x186_37, x186_40, x186_41, x186_42, x186_45, x186_46, x186_47, x186_50, x186_51, x186_52, x186_53, x186_54, x186_55, x186_58, x186_59, x186_62, x186_63, x186_65, x186_66, x186_67, x186_70, x186_71, x186_72, x186_75, x186_76, x186_77, x186_80, x186_83, x186_84, x186_85, x186_88, x186_91, x186_94, gk_some, pk_some, qk_some, bnd_v, bnd_n, kl_int, kl_ref, kl_null, kl_un, Nat.reduceAdd, if_true, if_false, mm_0, mm_12, mm_13, mm_rv, mm_l0, mm_l1, mm_l3, mm_l4, mm_l5, mm_l6, mm_l7, mm_l8, hM.2.1.1, nlt_self]
  | succ n ih =>
    intro rk S a z1 z2 hl hM hC hK
    obtain ⟨w, ka, ks, kd, s, hv, kt, hK2⟩ := hK
    have h6 := hM.2.1.2.1
    have hlt : I rk < I (prs S).length := by rw [I_lt (by omega) (by omega)]; omega
    obtain ⟨D, R, hP, hfi⟩ := fidx_some 0 hv
    rw [Nat.zero_add] at hfi
    have h185 := n185 h g A r a c m (p := p) hM.2.1 kd ks (rk := rk) (by omega)
    rw [hfi] at h185
    have hr := nrd h g A r a c m (p := p) hM.2.1 hP
    have hr0 := nrd0 h g A r a c m (p := p) hM.2.1 hP
    have hs : s ∈ prs S := by rw [hP]; simp
    have hsS := (prs_mem hs).1
    obtain ⟨D2, R2, h2⟩ := mem_split hsS
    have ht := tr_mid w.2.1 h2
    have h179 := n179 h g A r a c m (p := p) hm (s.2.2 1)
    rw [hC s hs] at h179
    obtain ⟨t, g1, g2, g3⟩ := go_prs f tk rt w hP
    have hC2 : CR c m (f 7) (prs (go1 f tk rt S s.1)) := by rw [g1]; rw [hP] at hC; exact CR_same hC g2 g3
    have hl2 : n + (rk + 1) = (prs (go1 f tk rt S s.1)).length := by
      rw [g1]; rw [hP] at hl; simp at hl ⊢; omega
    have eg : gmN f tk rt (n + 1) rk S = gmN f tk rt n (rk + 1) (go1 f tk rt S s.1) := by rw [gmN, hv]
    rw [eg]
    have hwh : (whr s.2 = 1) = (s.2.1 = 3) := whr_1 s.2
    have stay : go1 f tk rt S s.1 = S → ∃ a', rn 186 25 [.ref p, .int (I (rk + 1)), .int (I D.length), .int (I (22 + 9 * D.length))] [] (mm h p g A a c m, r) = some (.inl none, (mm h p g A a' c m, r)) ∧ MR a' f tk rt (prs (gmN f tk rt n (rk + 1) (go1 f tk rt S s.1))) := fun e =>
      ih (rk + 1) (go1 f tk rt S s.1) a _ _ hl2 (by rw [e]; exact hM) hC2 hK2
    by_cases e1 : s.2.1 = 3
    · by_cases e3 : s.2.2 9 = 0
      · by_cases e2 : s.2.2 11 = f 7
        · obtain ⟨a', r1, r2⟩ := stay (by unfold go1; rw [ht, if_neg (fun q => q.2.1 e2)])
          refine ⟨a', ?_, r2⟩
          rw [x186_25]
          simp only [x186_0, x186_1, x186_4, x186_5, x186_6, x186_7, x186_8, x186_9, x186_10, x186_11, x186_12, x186_15, x186_16, x186_19, x186_20, x186_23, x186_24, x186_26, x186_27, x186_30, x186_31, x186_32, x186_35, x186_36, x186_37, x186_40, x186_41, x186_42, x186_45, x186_46, x186_47, x186_50, x186_51, x186_52, x186_53, x186_54, x186_55, x186_58, x186_59, x186_62, x186_63, x186_65, x186_66, x186_67, x186_70, x186_71, x186_72, x186_75, x186_76, x186_77, x186_80, x186_83, x186_84, x186_85, x186_88, x186_91, x186_94, gk_some, pk_some, qk_some, bnd_v, bnd_n, kl_int, kl_ref, kl_null, kl_un, Nat.reduceAdd, if_true, if_false, mm_0, mm_12, mm_13, mm_rv, mm_l0, mm_l1, mm_l3, mm_l4, mm_l5, mm_l6, mm_l7, mm_l8, hM.2.1.1, hlt, h185, m154, I_1, Ia2, Ia3, Ia4, Ia5, Ia6, Ia7, Ia8, Ia9, Ia10, Ia11, Ia12, Il9, Il16, Il22, Il76, Im9, hr, hr0, show 4 < 9 by decide, show 7 < 9 by decide, mt, hwh, e1, e3, h179, e2, fit1, fit0, fitb, b2i_t, b2i_f, reduceIte, decide_true, decide_false, ne10, r1]
        · obtain ⟨a1, q1, q2⟩ := n184 h g A r a c m f tk rt hp w ka hM hP e1 (kt e1)
          have eg1 : go1 f tk rt S s.1 = try1 f tk rt S s.1 := by unfold go1; rw [ht, if_pos ⟨e1, e2, e3⟩]
          obtain ⟨a', r1, r2⟩ := ih (rk + 1) (go1 f tk rt S s.1) a1 (.int (I D.length)) (.int (I (22 + 9 * D.length))) hl2 (by rw [eg1]; exact q2) hC2 hK2
          refine ⟨a', ?_, r2⟩
          rw [x186_25]
          simp only [x186_0, x186_1, x186_4, x186_5, x186_6, x186_7, x186_8, x186_9, x186_10, x186_11, x186_12, x186_15, x186_16, x186_19, x186_20, x186_23, x186_24, x186_26, x186_27, x186_30, x186_31, x186_32, x186_35, x186_36, x186_37, x186_40, x186_41, x186_42, x186_45, x186_46, x186_47, x186_50, x186_51, x186_52, x186_53, x186_54, x186_55, x186_58, x186_59, x186_62, x186_63, x186_65, x186_66, x186_67, x186_70, x186_71, x186_72, x186_75, x186_76, x186_77, x186_80, x186_83, x186_84, x186_85, x186_88, x186_91, x186_94, gk_some, pk_some, qk_some, bnd_v, bnd_n, kl_int, kl_ref, kl_null, kl_un, Nat.reduceAdd, if_true, if_false, mm_0, mm_12, mm_13, mm_rv, mm_l0, mm_l1, mm_l3, mm_l4, mm_l5, mm_l6, mm_l7, mm_l8, hM.2.1.1, hlt, h185, m154, I_1, Ia2, Ia3, Ia4, Ia5, Ia6, Ia7, Ia8, Ia9, Ia10, Ia11, Ia12, Il9, Il16, Il22, Il76, Im9, hr, hr0, show 4 < 9 by decide, show 7 < 9 by decide, mt, hwh, e1, e3, h179, e2, fit1, fit0, fitb, b2i_t, b2i_f, reduceIte, decide_true, decide_false, ne10, Bool.false_eq_true, q1, r1]
      · obtain ⟨a', r1, r2⟩ := stay (by unfold go1; rw [ht, if_neg (fun q => e3 q.2.2)])
        refine ⟨a', ?_, r2⟩
        rw [x186_25]
        simp only [x186_0, x186_1, x186_4, x186_5, x186_6, x186_7, x186_8, x186_9, x186_10, x186_11, x186_12, x186_15, x186_16, x186_19, x186_20, x186_23, x186_24, x186_26, x186_27, x186_30, x186_31, x186_32, x186_35, x186_36, x186_37, x186_40, x186_41, x186_42, x186_45, x186_46, x186_47, x186_50, x186_51, x186_52, x186_53, x186_54, x186_55, x186_58, x186_59, x186_62, x186_63, x186_65, x186_66, x186_67, x186_70, x186_71, x186_72, x186_75, x186_76, x186_77, x186_80, x186_83, x186_84, x186_85, x186_88, x186_91, x186_94, gk_some, pk_some, qk_some, bnd_v, bnd_n, kl_int, kl_ref, kl_null, kl_un, Nat.reduceAdd, if_true, if_false, mm_0, mm_12, mm_13, mm_rv, mm_l0, mm_l1, mm_l3, mm_l4, mm_l5, mm_l6, mm_l7, mm_l8, hM.2.1.1, hlt, h185, m154, I_1, Ia2, Ia3, Ia4, Ia5, Ia6, Ia7, Ia8, Ia9, Ia10, Ia11, Ia12, Il9, Il16, Il22, Il76, Im9, hr, hr0, show 4 < 9 by decide, show 7 < 9 by decide, mt, hwh, e1, e3, fit1, fit0, fitb, b2i_t, b2i_f, reduceIte, decide_true, decide_false, r1]
    · obtain ⟨a', r1, r2⟩ := stay (by unfold go1; rw [ht, if_neg (fun q => e1 q.1)])
      refine ⟨a', ?_, r2⟩
      rw [x186_25]
      simp only [x186_0, x186_1, x186_4, x186_5, x186_6, x186_7, x186_8, x186_9, x186_10, x186_11, x186_12, x186_15, x186_16, x186_19, x186_20, x186_23, x186_24, x186_26, x186_27, x186_30, x186_31, x186_32, x186_35, x186_36, x186_37, x186_40, x186_41, x186_42, x186_45, x186_46, x186_47, x186_50, x186_51, x186_52, x186_53, x186_54, x186_55, x186_58, x186_59, x186_62, x186_63, x186_65, x186_66, x186_67, x186_70, x186_71, x186_72, x186_75, x186_76, x186_77, x186_80, x186_83, x186_84, x186_85, x186_88, x186_91, x186_94, gk_some, pk_some, qk_some, bnd_v, bnd_n, kl_int, kl_ref, kl_null, kl_un, Nat.reduceAdd, if_true, if_false, mm_0, mm_12, mm_13, mm_rv, mm_l0, mm_l1, mm_l3, mm_l4, mm_l5, mm_l6, mm_l7, mm_l8, hM.2.1.1, hlt, h185, m154, I_1, Ia2, Ia3, Ia4, Ia5, Ia6, Ia7, Ia8, Ia9, Ia10, Ia11, Ia12, Il9, Il16, Il22, Il76, Im9, hr, hr0, show 4 < 9 by decide, mt, hwh, e1, fit1, fit0, fitb, b2i_t, b2i_f, reduceIte, decide_true, decide_false, r1]
/-- a minute that the reference can walk -/
def mnK (tk rt : Nat → Int32) (q : LQ) : Prop := ∃ N, q.1 0 = I N ∧ N ≤ 7 ∧ NUM (prs q.2) ∧ (∀ s, s ∈ prs q.2 → ¬ s.2.2 11 = q.1 7 + 1) ∧ mvMN rt 0 (N - 1) (up q.1 7 (q.1 7 + 1), q.2) ∧ bgK (min1 tk rt q).2 ∧ gmK (min1 tk rt q).1 tk rt (prs (min2 tk rt q)).length 0 (min2 tk rt q) ∧
  goN (min1 tk rt q).1 tk rt 6 (nxS none (min2 tk rt q)) (min2 tk rt q) = gmN (min1 tk rt q).1 tk rt (prs (min2 tk rt q)).length 0 (min2 tk rt q)
theorem mm_p13z (a c : Nat → Int32) (m : Nat) (hp : 32 ≤ p) : pfd (mm h p g A a c m, r) true 5 13 p (.int 0) = some (mm h p g A a c 0, r) := mm_p13 h g A r a c m hp 0
theorem MR_time {a f tk rt : Nat → Int32} {P : List SL} (hM : MR a f tk rt P) : MR (up a 3 (a 3 + 1)) (up f 7 (f 7 + 1)) tk rt P := by
  obtain ⟨⟨s0, s2, s3, s4, s5, s6, s7, s8, s9, s10⟩, hT, hZ⟩ := hM
  refine ⟨⟨?_, ?_, ?_, ?_, ?_, ?_, ?_, ?_, ?_, ?_⟩, ?_, ?_⟩
  · simpa [up] using s0
  · simpa [up] using s2
  · simp [up, s3]
  · simpa [up] using s4
  · simpa [up] using s5
  · simpa [up] using s6
  · simpa [up] using s7
  · simpa [up] using s8
  · intro k hk; rw [up_ne _ _ (by omega)]; exact s9 k hk
  · intro k hk; rw [up_ne _ _ (by omega)]; exact s10 k hk
  · exact ⟨by rw [up_ne _ _ (by decide)]; exact hT.1, hT.2.1, fun D s R hP k hk => by rw [up_ne _ _ (by omega)]; exact hT.2.2 D s R hP k hk⟩
  · intro i h1 h2; rw [up_ne _ _ (by omega)]; exact hZ i h1 h2
theorem n186 (hp : 32 ≤ p) (q : LQ) (a c : Nat → Int32) (m : Nat) (hM : MR a q.1 tk rt (prs q.2)) (k : mnK tk rt q) :
    ∃ a' c' m', rcal 186 [.ref p] (mm h p g A a c m, r) = some (.inl none, (mm h p g A a' c' m', r)) ∧ MR a' (minQ tk rt q).1 tk rt (prs (minQ tk rt q).2) := by
  obtain ⟨N, h0, h7, hN, hca, kv, kb, kg, heq⟩ := k
  have hM1 := MR_time hM
  have hC1 : CR c 0 (up q.1 7 (q.1 7 + 1) 7) (prs q.2) := by
    intro s hs
    rw [up_eq, comN, decide_eq_false (hca s hs)]
  obtain ⟨a1, c1, m1, e1, M1, C1, N1, l1⟩ := m182 h g A r tk rt hp h7 (up q.1 7 (q.1 7 + 1), q.2) (up a 3 (a 3 + 1)) c (by simpa [up] using h0) hM1 hC1 hN kv
  have eq1 : mvN 0 (N - 1) (up q.1 7 (q.1 7 + 1), q.2) = min1 tk rt q := by unfold min1; rw [h0, I_nat7 h7]
  rw [eq1] at M1 C1 N1
  obtain ⟨a2, c2, m2, e2, M2, C2, N2, l2⟩ := m183 h g A r (min1 tk rt q).1 tk rt hp (min1 tk rt q).2 a1 c1 m1 kb M1 C1 N1 l1
  obtain ⟨a3, e3, M3⟩ := l186 h g A r (min1 tk rt q).1 tk rt hp c2 m2 l2 (prs (min2 tk rt q)).length 0 (min2 tk rt q) a2 un un (by omega) M2 C2 kg
  rw [show I 0 = 0 from rfl] at e3
  refine ⟨a3, c2, m2, ?_, ?_⟩
  · simp only [c186, x186_0, x186_1, x186_4, x186_5, x186_6, x186_7, x186_8, x186_9, x186_10, x186_11, x186_12, x186_15, x186_16, x186_19, x186_20, x186_23, x186_24, x186_26, x186_27, x186_30, x186_31, x186_32, x186_35, x186_36, x186_37, x186_40, x186_41, x186_42, x186_45, x186_46, x186_47, x186_50, x186_51, x186_52, x186_53, x186_54, x186_55, x186_58, x186_59, x186_62, x186_63, x186_65, x186_66, x186_67, x186_70, x186_71, x186_72, x186_75, x186_76, x186_77, x186_80, x186_83, x186_84, x186_85, x186_88, x186_91, x186_94, gk_some, pk_some, qk_some, bnd_v, bnd_n, kl_int, kl_ref, kl_null, kl_un, Nat.reduceAdd, if_true, if_false, mm_0, mm_12, mm_13, mm_rv, mm_l0, mm_l1, mm_l3, mm_l4, mm_l5, mm_l6, mm_l7, mm_l8, mm_w3 h _ _ _ _ _ _ hp, mm_p13z h g A r _ _ _ hp, e1, e2, e3]
  · unfold minQ; rw [heq]; exact M3
def mnKN (tk rt : Nat → Int32) : Nat → LQ → Prop
  | 0, _ => True
  | n + 1, q => mnK tk rt q ∧ mnKN tk rt n (minQ tk rt q)
theorem l187 (hp : 32 ≤ p) {mx : Nat} (hx : mx ≤ 60) (z : Int32) : ∀ (n k : Nat) (q : LQ) (a c : Nat → Int32) (m : Nat), k + n = mx → MR a q.1 tk rt (prs q.2) → mnKN tk rt n q →
    ∃ a' c' m', rn 187 27 [.ref p, .int (I mx), .int z, .int (I k)] [] (mm h p g A a c m, r) = some (.inl (some (.int ((minN tk rt n q).1 8 - z))), (mm h p g A a' c' m', r)) ∧ MR a' (minN tk rt n q).1 tk rt (prs (minN tk rt n q).2) := by
  intro n
  induction n with
  | zero =>
    intro k q a c m hk hM _
    have : k = mx := by omega
    subst this
    refine ⟨a, c, m, ?_, hM⟩
    rw [x187_27]
    simp only [x187_0, x187_1, x187_2, x187_3, x187_6, x187_9, x187_12, x187_13, x187_14, x187_17, x187_18, x187_19, x187_22, x187_23, x187_24, x187_25, x187_26, x187_28, x187_29, x187_32, x187_33, x187_36, x187_39, x187_42, x187_43, x187_46, x187_47, x187_48, x187_49, x187_50, gk_some, pk_some, qk_some, bnd_v, bnd_n, kl_int, kl_ref, kl_null, kl_un, Nat.reduceAdd, if_true, if_false, mm_0, mm_12, mm_13, mm_rv, mm_l0, mm_l1, mm_l3, mm_l4, mm_l5, mm_l6, mm_l7, mm_l8, nlt_self, hM.1.2.2.2.1, minN]
  | succ n ih =>
    intro k q a c m hk hM hK
    have hlt : I k < I mx := by rw [I_lt (by omega) (by omega)]; omega
    obtain ⟨a1, c1, m1, e1, M1⟩ := n186 h g A r tk rt hp q a c m hM hK.1
    obtain ⟨a2, c2, m2, e2, M2⟩ := ih (k + 1) (minQ tk rt q) a1 c1 m1 (by omega) M1 hK.2
    refine ⟨a2, c2, m2, ?_, M2⟩
    rw [x187_27]
    simp only [x187_0, x187_1, x187_2, x187_3, x187_6, x187_9, x187_12, x187_13, x187_14, x187_17, x187_18, x187_19, x187_22, x187_23, x187_24, x187_25, x187_26, x187_28, x187_29, x187_32, x187_33, x187_36, x187_39, x187_42, x187_43, x187_46, x187_47, x187_48, x187_49, x187_50, gk_some, pk_some, qk_some, bnd_v, bnd_n, kl_int, kl_ref, kl_null, kl_un, Nat.reduceAdd, if_true, if_false, mm_0, mm_12, mm_13, mm_rv, mm_l0, mm_l1, mm_l3, mm_l4, mm_l5, mm_l6, mm_l7, mm_l8, hlt, e1, I_1, Ia2, Ia3, Ia4, Ia5, Ia6, Ia7, Ia8, Ia9, Ia10, Ia11, Ia12, Il9, Il16, Il22, Il76, Im9, e2, minN]
theorem n187 (hp : 32 ≤ p) {mx : Nat} (h1 : 1 ≤ mx) (hx : mx ≤ 60) (q : LQ) (a c : Nat → Int32) (m : Nat) (hM : MR a q.1 tk rt (prs q.2)) (hK : mnKN tk rt mx q) :
    ∃ a' c' m', rcal 187 [.ref p, .int (I mx)] (mm h p g A a c m, r) = some (.inl (some (.int ((minN tk rt mx q).1 8 - q.1 8))), (mm h p g A a' c' m', r)) ∧ MR a' (minN tk rt mx q).1 tk rt (prs (minN tk rt mx q).2) := by
  obtain ⟨a1, c1, m1, e1, M1⟩ := l187 h g A r tk rt hp hx (q.1 8) mx 0 q a c m (by omega) hM hK
  rw [show I 0 = 0 from rfl] at e1
  have c1' : ¬ I mx < 1 := by rw [show (1 : Int32) = I 1 from rfl, I_lt (by omega) (by omega)]; omega
  have c2' : ¬ 60 < I mx := by rw [show (60 : Int32) = I 60 from rfl, I_lt (by omega) (by omega)]; omega
  refine ⟨a1, c1, m1, ?_, M1⟩
  simp only [c187, x187_0, x187_1, x187_2, x187_3, x187_6, x187_9, x187_12, x187_13, x187_14, x187_17, x187_18, x187_19, x187_22, x187_23, x187_24, x187_25, x187_26, x187_28, x187_29, x187_32, x187_33, x187_36, x187_39, x187_42, x187_43, x187_46, x187_47, x187_48, x187_49, x187_50, gk_some, pk_some, qk_some, bnd_v, bnd_n, kl_int, kl_ref, kl_null, kl_un, Nat.reduceAdd, if_true, if_false, m151_60, c1', c2', fit1, fit0, fitb, b2i_t, b2i_f, reduceIte, decide_true, decide_false, not_false_eq_true, and_self, ne10, mm_0, mm_12, mm_13, mm_rv, mm_l0, mm_l1, mm_l3, mm_l4, mm_l5, mm_l6, mm_l7, mm_l8, hM.1.2.2.2.1, e1]
end MMIN2
