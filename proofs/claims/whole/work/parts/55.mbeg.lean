/-! the reference lets trains begin, and finds the next that leaves -/
theorem prs_split {S : List SL} {DJ J : List Nat} {j : Nat} (w : WS S) (hJ : (prs S).map Prod.fst = DJ ++ j :: J) : ∃ D R, prs S = D ++ (j, tr S j) :: R ∧ D.length = DJ.length ∧ has S j := by
  obtain ⟨D, R', e1, e2, e3⟩ := List.map_eq_append_iff.mp hJ
  obtain ⟨s, R, f1, f2, f3⟩ := List.map_eq_cons_iff.mp e3
  subst f1
  have hm : s ∈ S := (prs_mem (by rw [e1]; simp)).1
  obtain ⟨D2, R2, h2⟩ := mem_split hm
  have ht := tr_mid w.2.1 h2
  have hh := has_mid w.2.1 h2
  refine ⟨D, R, ?_, by rw [← e2]; simp, f2 ▸ hh⟩
  rw [← f2, ht]
  exact e1
def bgK (S : List SL) : Prop := WS S ∧ ahdK (prs S) ∧ ∀ s, s ∈ prs S → s.2.1 = 2 → ∃ n, n < 7 ∧ s.2.2 2 = I n
theorem freN_prs (tk : Nat → Int32) (S : List SL) (v : Int32) : freN tk S v = tk v.toNatClampNeg - I ((prs S).countP (occP v)) := by
  rw [freN_cnt, cnt_prs (occ_pr v)]
section MBEG
variable (h : PH) {p : Nat} (g : Nat → Int32) (A : Nat → Nat → Int32) (r : Nat × Nat × Nat) (f tk rt : Nat → Int32)
theorem m182 (hp : 32 ≤ p) {N : Nat} (h7 : N ≤ 7) (q : LQ) (a c : Nat → Int32) (h0 : q.1 0 = I N) (hM : MR a q.1 tk rt (prs q.2)) (hC : CR c 0 (q.1 7) (prs q.2)) (hN : NUM (prs q.2)) (hK : mvMN rt 0 (N - 1) q) :
    ∃ a' c' m', rcal 182 [.ref p] (mm h p g A a c 0, r) = some (.inl none, (mm h p g A a' c' m', r)) ∧ MR a' (mvN 0 (N - 1) q).1 tk rt (prs (mvN 0 (N - 1) q).2) ∧ CR c' m' ((mvN 0 (N - 1) q).1 7) (prs (mvN 0 (N - 1) q).2) ∧ NUM (prs (mvN 0 (N - 1) q).2) ∧ m' ≤ 6 := by
  by_cases h1N : 1 ≤ N
  · obtain ⟨a', c', m', e, r2, r3, r4, r5⟩ := l182 h g A r tk rt hp h7 h1N (N - 1) 0 q a c 0 un un (by omega) h0 hM hC hN (by omega) hK
    rw [show I 0 = 0 from rfl] at e
    refine ⟨a', c', m', ?_, r2, r3, r4, by omega⟩
    simp only [c182, x182_0, x182_1, x182_3, x182_4, x182_7, x182_8, x182_9, x182_10, x182_11, x182_14, x182_15, x182_16, x182_19, x182_20, x182_21, x182_22, x182_25, x182_26, x182_29, x182_30, x182_33, x182_35, x182_36, x182_37, x182_38, x182_39, x182_40, x182_41, x182_42, x182_45, x182_46, x182_49, x182_51, x182_52, x182_53, x182_56, x182_57, x182_58, x182_61, x182_62, x182_63, x182_64, x182_67, x182_68, x182_71, x182_72, x182_73, x182_74, x182_77, x182_78, x182_79, x182_82, x182_91, x182_94, x182_85, x182_86, x182_87, x182_88, x182_97, gk_some, pk_some, qk_some, bnd_v, bnd_n, kl_int, kl_ref, kl_null, kl_un, Nat.reduceAdd, if_true, if_false, e]
  · have hz : N = 0 := by omega
    subst hz
    refine ⟨a, c, 0, ?_, hM, hC, hN, by omega⟩
    simp only [c182, x182_0, x182_1, x182_2, x182_3, x182_4, x182_7, x182_8, x182_9, x182_10, x182_11, x182_14, x182_15, x182_16, x182_19, x182_20, x182_21, x182_22, x182_25, x182_26, x182_29, x182_30, x182_33, x182_35, x182_36, x182_37, x182_38, x182_39, x182_40, x182_41, x182_42, x182_45, x182_46, x182_49, x182_51, x182_52, x182_53, x182_56, x182_57, x182_58, x182_61, x182_62, x182_63, x182_64, x182_67, x182_68, x182_71, x182_72, x182_73, x182_74, x182_77, x182_78, x182_79, x182_82, x182_91, x182_94, x182_85, x182_86, x182_87, x182_88, x182_97, gk_some, pk_some, qk_some, bnd_v, bnd_n, kl_int, kl_ref, kl_null, kl_un, Nat.reduceAdd, if_true, if_false, mm_0, mm_12, mm_13, mm_rv, mm_l0, mm_l1, mm_l3, mm_l4, mm_l5, mm_l6, mm_l7, mm_l8, hM.1.1, h0, show ¬ (0 : Int32) < I 0 - 1 by decide]
theorem l183 (hp : 32 ≤ p) : ∀ (J DJ : List Nat) (S : List SL) (a c : Nat → Int32) (m : Nat) (i : Int32) (z : Value), (prs S).map Prod.fst = DJ ++ J → i = I DJ.length → bgK S → MR a f tk rt (prs S) → CR c m (f 7) (prs S) → NUM (prs S) → m + J.length ≤ 12 →
    ∃ a' c' m', rn 183 2 [.ref p, .int i, z] [] (mm h p g A a c m, r) = some (.inl none, (mm h p g A a' c' m', r)) ∧ MR a' f tk rt (prs (J.foldl (br1 f tk) S)) ∧ CR c' m' (f 7) (prs (J.foldl (br1 f tk) S)) ∧ NUM (prs (J.foldl (br1 f tk) S)) ∧ m' ≤ 12 := by
  intro J
  induction J with
  | nil =>
    intro DJ S a c m i z hJ hi k hM hC hN hm
    have hl : DJ.length = (prs S).length := by have := congrArg List.length hJ; simpa using this.symm
    have hlt : ¬ I DJ.length < I (prs S).length := by rw [hl, Int32.lt_iff_toInt_lt]; omega
    refine ⟨a, c, m, ?_, hM, hC, hN, by simpa using hm⟩
    rw [x183_2]
    simp only [x183_0, x183_1, x183_3, x183_4, x183_7, x183_8, x183_9, x183_12, x183_13, x183_16, x183_17, x183_20, x183_21, x183_22, x183_23, x183_26, x183_27, x183_30, x183_31, x183_34, x183_35, x183_36, x183_37, x183_38, x183_41, x183_42, x183_43, x183_46, x183_47, x183_51, x183_52, x183_53, x183_56, x183_57, x183_58, x183_61, x183_62, x183_65, x183_66, x183_67, x183_68, x183_71, x183_74, x183_75, x183_76, x183_77, x183_80, x183_81, x183_84, x183_85, x183_86, x183_87, x183_90, x183_93, x183_50, x183_96, gk_some, pk_some, qk_some, bnd_v, bnd_n, kl_int, kl_ref, kl_null, kl_un, Nat.reduceAdd, if_true, if_false, mm_0, mm_12, mm_13, mm_rv, mm_l0, mm_l1, mm_l3, mm_l4, mm_l5, mm_l6, mm_l7, mm_l8, hi, hM.2.1.1, hlt]
  | cons j J ih =>
    intro DJ S a c m i z hJ hi k hM hC hN hm
    obtain ⟨w, ka, ks⟩ := k
    obtain ⟨D, R, hP, hD, hj⟩ := prs_split w hJ
    have hs : (j, tr S j) ∈ prs S := by rw [hP]; simp
    obtain ⟨hsS, hp1⟩ := prs_mem hs
    simp only [] at hp1
    have hpl := w.2.2.1 _ hsS
    simp only [] at hpl
    have hl6 : D.length < 6 := by have := hM.2.1.2.1; rw [hP] at this; simp at this; omega
    have hlt : I DJ.length < I (prs S).length := by rw [← hD]; exact mlt (A := fun _ => a) hM.2.1 hP
    have hr := nrd h g A r a c m (p := p) hM.2.1 hP
    simp only [List.length_cons] at hm
    have same : br1 f tk S j = S → ∀ z, ∃ a' c' m', rn 183 2 [.ref p, .int (I (DJ.length + 1)), z] [] (mm h p g A a c m, r) = some (.inl none, (mm h p g A a' c' m', r)) ∧ MR a' f tk rt (prs ((j :: J).foldl (br1 f tk) S)) ∧ CR c' m' (f 7) (prs ((j :: J).foldl (br1 f tk) S)) ∧ NUM (prs ((j :: J).foldl (br1 f tk) S)) ∧ m' ≤ 12 := by
      intro e z
      rw [List.foldl_cons, e]
      exact ih (DJ ++ [j]) S a c m _ z (by rw [hJ]; simp) (by simp) ⟨w, ka, ks⟩ hM hC hN (by omega)
    have hw0 : (whr (tr S j) = 0) = ((tr S j).1 = 2) := by
      rw [whr_0]; exact propext (by omega)
    by_cases e : (tr S j).1 = 2
    · have ew : whr (tr S j) = 0 := by rw [hw0]; exact e
      by_cases e2 : f 7 < (tr S j).2 4
      · obtain ⟨a', c', m', r1, r2, r3, r4, r5⟩ := same (by unfold br1; rw [if_neg (fun q => q.2.1 e2)]) (.int 0)
        refine ⟨a', c', m', ?_, r2, r3, r4, r5⟩
        rw [x183_2]
        rw [hD] at hr
        simp only [x183_0, x183_1, x183_3, x183_4, x183_7, x183_8, x183_9, x183_12, x183_13, x183_16, x183_17, x183_20, x183_21, x183_22, x183_23, x183_26, x183_27, x183_30, x183_31, x183_34, x183_35, x183_36, x183_37, x183_38, x183_41, x183_42, x183_43, x183_46, x183_47, x183_51, x183_52, x183_53, x183_56, x183_57, x183_58, x183_61, x183_62, x183_65, x183_66, x183_67, x183_68, x183_71, x183_74, x183_75, x183_76, x183_77, x183_80, x183_81, x183_84, x183_85, x183_86, x183_87, x183_90, x183_93, x183_50, x183_96, gk_some, pk_some, qk_some, bnd_v, bnd_n, kl_int, kl_ref, kl_null, kl_un, Nat.reduceAdd, if_true, if_false, mm_0, mm_12, mm_13, mm_rv, mm_l0, mm_l1, mm_l3, mm_l4, mm_l5, mm_l6, mm_l7, mm_l8, hi, hM.2.1.1, hlt, m154, I_1, Ia2, Ia3, Ia4, Ia5, Ia6, Ia7, Ia8, Ia9, Ia10, Ia11, Ia12, Il9, Il16, Il22, Il76, Im9, hr, show 4 < 9 by decide, show 3 < 9 by decide, mt, ew, hM.1.2.2.1, e2, r1]
      · obtain ⟨n, n7, hn⟩ := ks _ hs e
        simp only [] at hn
        have h163 := n163 h g A r a c m (p := p) hM.2.1 ka n7
        rw [hM.1.2.2.2.2.2.2.2.2.1 n n7] at h163
        have hfr : freN tk S ((tr S j).2 2) = tk n - I ((prs S).countP (occP (I n))) := by rw [hn, freN_prs, I_nat (by omega)]
        rw [← hfr] at h163
        by_cases e3 : 0 < freN tk S ((tr S j).2 2)
        · have eb : br1 f tk S j = upS S j (3, up (up (tr S j).2 6 ((tr S j).2 2)) 11 (f 7)) := by unfold br1; rw [if_pos ⟨e, e2, e3⟩]
          have hpr : prs (upS S j (3, up (up (tr S j).2 6 ((tr S j).2 2)) 11 (f 7))) = D ++ (j, (3, up (up (tr S j).2 6 ((tr S j).2 2)) 11 (f 7))) :: R := prs_up (s := (j, tr S j)) w hP (by show ¬ 3 = 1; decide)
          have hM2 := hM
          have hC2 := hC
          have hN2 := hN
          rw [hP] at hM2 hC2 hN2
          have hM3 := MR_cm hM2 ((tr S j).2 2) (t := (3, up (up (tr S j).2 6 ((tr S j).2 2)) 11 (f 7))) rfl (by simp [up]) (by intro i hi; rcases hi with rfl | rfl | rfl | rfl | rfl | rfl <;> simp [up])
          have hC3 := CR_come hC2 hN2 (u := (3, up (up (tr S j).2 6 ((tr S j).2 2)) 11 (f 7))) (by simp [up]) (by simp [up])
          have hN3 : NUM (D ++ (j, (3, up (up (tr S j).2 6 ((tr S j).2 2)) 11 (f 7))) :: R) := NUM_set (s := (j, tr S j)) hN2 (by simp [up])
          have h180 := n180 h g A r a c m hp hl6 (by omega) ((tr S j).2 2)
          have hnum : a (22 + 9 * D.length) = (tr S j).2 1 := by
            have := hM.2.1.2.2 D _ R hP 0 (by decide)
            simpa [mt] using this
          rw [hnum] at h180
          have k3 : bgK (upS S j (3, up (up (tr S j).2 6 ((tr S j).2 2)) 11 (f 7))) := by
            refine ⟨WS_up w j (show 1 ≤ 3 ∧ 3 ≤ 4 by decide) (by simpa [up] using w.2.2.2.2 _ hsS), ?_, ?_⟩
            · rw [hpr]; rw [hP] at ka
              intro s hs h4
              rcases List.mem_append.mp hs with q | q
              · exact ka s (List.mem_append_left _ q) h4
              · rcases List.mem_cons.mp q with rfl | q
                · cases h4
                · exact ka s (List.mem_append_right _ (List.mem_cons_of_mem _ q)) h4
            · rw [hpr]; rw [hP] at ks
              intro s hs h4
              rcases List.mem_append.mp hs with q | q
              · exact ks s (List.mem_append_left _ q) h4
              · rcases List.mem_cons.mp q with rfl | q
                · cases h4
                · exact ks s (List.mem_append_right _ (List.mem_cons_of_mem _ q)) h4
          have hJ3 : (prs (upS S j (3, up (up (tr S j).2 6 ((tr S j).2 2)) 11 (f 7)))).map Prod.fst = (DJ ++ [j]) ++ J := by
            rw [hpr]
            have : (prs S).map Prod.fst = D.map Prod.fst ++ j :: R.map Prod.fst := by rw [hP]; simp
            rw [hJ] at this
            obtain ⟨u1, u2⟩ := List.append_inj this (by rw [List.length_map, hD])
            simp at u2
            simp [u1, u2]
          obtain ⟨a', c', m', r1, r2, r3, r4, r5⟩ := ih (DJ ++ [j]) (upS S j (3, up (up (tr S j).2 6 ((tr S j).2 2)) 11 (f 7))) (cmF a D.length ((tr S j).2 2)) (up c m ((tr S j).2 1)) (m + 1) (I (DJ.length + 1)) (.int 1) hJ3 (by simp) k3 (by rw [hpr]; exact hM3) (by rw [hpr]; exact hC3) (by rw [hpr]; exact hN3) (by omega)
          rw [List.foldl_cons, eb]
          refine ⟨a', c', m', ?_, r2, r3, r4, r5⟩
          rw [x183_2]
          rw [hD] at hr h180
          rw [hD] at r1
          rw [← hn] at h163
          simp only [x183_0, x183_1, x183_3, x183_4, x183_7, x183_8, x183_9, x183_12, x183_13, x183_16, x183_17, x183_20, x183_21, x183_22, x183_23, x183_26, x183_27, x183_30, x183_31, x183_34, x183_35, x183_36, x183_37, x183_38, x183_41, x183_42, x183_43, x183_46, x183_47, x183_51, x183_52, x183_53, x183_56, x183_57, x183_58, x183_61, x183_62, x183_65, x183_66, x183_67, x183_68, x183_71, x183_74, x183_75, x183_76, x183_77, x183_80, x183_81, x183_84, x183_85, x183_86, x183_87, x183_90, x183_93, x183_50, x183_96, gk_some, pk_some, qk_some, bnd_v, bnd_n, kl_int, kl_ref, kl_null, kl_un, Nat.reduceAdd, if_true, if_false, mm_0, mm_12, mm_13, mm_rv, mm_l0, mm_l1, mm_l3, mm_l4, mm_l5, mm_l6, mm_l7, mm_l8, hi, hM.2.1.1, hlt, m154, I_1, Ia2, Ia3, Ia4, Ia5, Ia6, Ia7, Ia8, Ia9, Ia10, Ia11, Ia12, Il9, Il16, Il22, Il76, Im9, hr, show 4 < 9 by decide, show 3 < 9 by decide, show 1 < 9 by decide, mt, ew, hM.1.2.2.1, e2, fit1, fit0, fitb, b2i_t, b2i_f, reduceIte, decide_true, decide_false, ne10, h163, e3, h180, r1]
        · obtain ⟨a', c', m', r1, r2, r3, r4, r5⟩ := same (by unfold br1; rw [if_neg (fun q => e3 q.2.2)]) (.int 1)
          refine ⟨a', c', m', ?_, r2, r3, r4, r5⟩
          rw [x183_2]
          rw [hD] at hr
          rw [← hn] at h163
          simp only [x183_0, x183_1, x183_3, x183_4, x183_7, x183_8, x183_9, x183_12, x183_13, x183_16, x183_17, x183_20, x183_21, x183_22, x183_23, x183_26, x183_27, x183_30, x183_31, x183_34, x183_35, x183_36, x183_37, x183_38, x183_41, x183_42, x183_43, x183_46, x183_47, x183_51, x183_52, x183_53, x183_56, x183_57, x183_58, x183_61, x183_62, x183_65, x183_66, x183_67, x183_68, x183_71, x183_74, x183_75, x183_76, x183_77, x183_80, x183_81, x183_84, x183_85, x183_86, x183_87, x183_90, x183_93, x183_50, x183_96, gk_some, pk_some, qk_some, bnd_v, bnd_n, kl_int, kl_ref, kl_null, kl_un, Nat.reduceAdd, if_true, if_false, mm_0, mm_12, mm_13, mm_rv, mm_l0, mm_l1, mm_l3, mm_l4, mm_l5, mm_l6, mm_l7, mm_l8, hi, hM.2.1.1, hlt, m154, I_1, Ia2, Ia3, Ia4, Ia5, Ia6, Ia7, Ia8, Ia9, Ia10, Ia11, Ia12, Il9, Il16, Il22, Il76, Im9, hr, show 4 < 9 by decide, show 3 < 9 by decide, show 1 < 9 by decide, mt, ew, hM.1.2.2.1, e2, fit1, fit0, fitb, b2i_t, b2i_f, reduceIte, decide_true, decide_false, ne10, h163, e3, r1]
    · have ew : ¬ whr (tr S j) = 0 := by rw [hw0]; exact e
      obtain ⟨a', c', m', r1, r2, r3, r4, r5⟩ := same (by unfold br1; rw [if_neg (fun q => e q.1)]) (.int 0)
      refine ⟨a', c', m', ?_, r2, r3, r4, r5⟩
      rw [x183_2]
      rw [hD] at hr
      simp only [x183_0, x183_1, x183_3, x183_4, x183_7, x183_8, x183_9, x183_12, x183_13, x183_16, x183_17, x183_20, x183_21, x183_22, x183_23, x183_26, x183_27, x183_30, x183_31, x183_34, x183_35, x183_36, x183_37, x183_38, x183_41, x183_42, x183_43, x183_46, x183_47, x183_51, x183_52, x183_53, x183_56, x183_57, x183_58, x183_61, x183_62, x183_65, x183_66, x183_67, x183_68, x183_71, x183_74, x183_75, x183_76, x183_77, x183_80, x183_81, x183_84, x183_85, x183_86, x183_87, x183_90, x183_93, x183_50, x183_96, gk_some, pk_some, qk_some, bnd_v, bnd_n, kl_int, kl_ref, kl_null, kl_un, Nat.reduceAdd, if_true, if_false, mm_0, mm_12, mm_13, mm_rv, mm_l0, mm_l1, mm_l3, mm_l4, mm_l5, mm_l6, mm_l7, mm_l8, hi, hM.2.1.1, hlt, m154, I_1, Ia2, Ia3, Ia4, Ia5, Ia6, Ia7, Ia8, Ia9, Ia10, Ia11, Ia12, Il9, Il16, Il22, Il76, Im9, hr, show 4 < 9 by decide, mt, ew, fit1, fit0, fitb, b2i_t, b2i_f, reduceIte, decide_true, decide_false, r1]
theorem fold_br : ∀ (J : List Nat) (T : List SL), (∀ j, j ∈ J → has T j) → J.foldl (br1 f tk) T = (J.filter fun j => decide ((tr T j).1 ≠ 1)).foldl (br1 f tk) T
  | [], _, _ => rfl
  | j :: J, T, hj => by
    rw [List.foldl_cons, List.filter_cons]
    by_cases e : (tr T j).1 = 1
    · have eb : br1 f tk T j = T := by unfold br1; rw [if_neg (fun q => by rw [e] at q; cases q.1)]
      rw [eb, if_neg (by simp [e])]
      exact fold_br J T (fun i hi => hj i (List.mem_cons_of_mem _ hi))
    · rw [if_pos (by simp [e]), List.foldl_cons]
      have hhj := hj j List.mem_cons_self
      have same : ∀ i, decide ((tr (br1 f tk T j) i).1 ≠ 1) = decide ((tr T i).1 ≠ 1) := by
        intro i
        unfold br1
        split
        · next hc =>
          by_cases c : i = j
          · subst c; rw [tr_up hhj]; simp [e]
          · rw [tr_upn _ _ c]
        · rfl
      have hh : ∀ i, i ∈ J → has (br1 f tk T j) i := by
        intro i hi
        unfold br1
        split
        · exact (has_up _ _ _ _).mpr (hj i (List.mem_cons_of_mem _ hi))
        · exact hj i (List.mem_cons_of_mem _ hi)
      rw [fold_br J (br1 f tk T j) hh]
      congr 1
      exact List.filter_congr (fun i _ => same i)
theorem prs_fst {S : List SL} (w : WS S) : (prs S).map Prod.fst = (S.map Prod.fst).filter fun j => decide ((tr S j).1 ≠ 1) := by
  rw [List.filter_map]
  unfold prs
  congr 1
  refine List.filter_congr fun s hs => ?_
  obtain ⟨D, R, hS⟩ := mem_split hs
  simp only [Function.comp]
  rw [tr_mid w.2.1 hS]
theorem m183 (hp : 32 ≤ p) (S : List SL) (a c : Nat → Int32) (m : Nat) (k : bgK S) (hM : MR a f tk rt (prs S)) (hC : CR c m (f 7) (prs S)) (hN : NUM (prs S)) (hm : m ≤ 6) :
    ∃ a' c' m', rcal 183 [.ref p] (mm h p g A a c m, r) = some (.inl none, (mm h p g A a' c' m', r)) ∧ MR a' f tk rt (prs ((S.map Prod.fst).foldl (br1 f tk) S)) ∧ CR c' m' (f 7) (prs ((S.map Prod.fst).foldl (br1 f tk) S)) ∧ NUM (prs ((S.map Prod.fst).foldl (br1 f tk) S)) ∧ m' ≤ 12 := by
  obtain ⟨a', c', m', e, r2, r3, r4, r5⟩ := l183 h g A r f tk rt hp ((prs S).map Prod.fst) [] S a c m 0 un rfl rfl k hM hC hN (by have := hM.2.1.2.1; rw [List.length_map]; omega)
  rw [prs_fst k.1, ← fold_br f tk (S.map Prod.fst) S (fun j hj => by
    obtain ⟨s, hs, rfl⟩ := List.mem_map.mp hj
    obtain ⟨D, R, hS⟩ := mem_split hs
    exact has_mid k.1.2.1 hS)] at r2 r3 r4
  refine ⟨a', c', m', ?_, r2, r3, r4, r5⟩
  simp only [c183, x183_0, x183_1, x183_3, x183_4, x183_7, x183_8, x183_9, x183_12, x183_13, x183_16, x183_17, x183_20, x183_21, x183_22, x183_23, x183_26, x183_27, x183_30, x183_31, x183_34, x183_35, x183_36, x183_37, x183_38, x183_41, x183_42, x183_43, x183_46, x183_47, x183_51, x183_52, x183_53, x183_56, x183_57, x183_58, x183_61, x183_62, x183_65, x183_66, x183_67, x183_68, x183_71, x183_74, x183_75, x183_76, x183_77, x183_80, x183_81, x183_84, x183_85, x183_86, x183_87, x183_90, x183_93, x183_50, x183_96, gk_some, pk_some, qk_some, bnd_v, bnd_n, kl_int, kl_ref, kl_null, kl_un, Nat.reduceAdd, if_true, if_false, e]
end MBEG
