/-! the reference moves the trains -/
theorem fidx_none {q : SL → Bool} : ∀ {P : List SL} (k : Nat), P.find? q = none → fidx q P k = -1
  | [], _, _ => rfl
  | s :: P, k, e => by
    rw [List.find?_cons] at e
    cases hq : q s with
    | true => rw [hq] at e; cases e
    | false =>
      rw [hq] at e
      rw [fidx, if_neg (by rw [hq]; decide)]
      exact fidx_none (k + 1) e
theorem fidx_some {q : SL → Bool} {s : SL} : ∀ {P : List SL} (k : Nat), P.find? q = some s → ∃ D R, P = D ++ s :: R ∧ fidx q P k = I (k + D.length)
  | [], _, e => by cases e
  | t :: P, k, e => by
    rw [List.find?_cons] at e
    cases hq : q t with
    | true =>
      rw [hq] at e
      cases e
      exact ⟨[], P, rfl, by rw [fidx, if_pos hq]; rfl⟩
    | false =>
      rw [hq] at e
      obtain ⟨D, R, h1, h2⟩ := fidx_some (k + 1) e
      exact ⟨t :: D, R, by rw [h1]; rfl, by rw [fidx, if_neg (by rw [hq]; decide), h2, List.length_cons]; congr 1; omega⟩
theorem ne_m1 {n : Nat} (hn : n < 2147483648) : ¬ I n = -1 := by
  intro e
  have h1 : (I n).toInt = n := Int32.toInt_ofNat_of_lt hn
  rw [e] at h1
  have : ((-1 : Int32)).toInt = -1 := by decide
  omega
theorem mem_split {S : List SL} {s : SL} (hs : s ∈ S) : ∃ D R, S = D ++ s :: R := List.append_of_mem hs
theorem prs_up {S D R : List SL} {s : SL} (w : WS S) (hP : prs S = D ++ s :: R) {t : TR} (ht : t.1 ≠ 1) : prs (upS S s.1 t) = D ++ (s.1, t) :: R := by
  have hm : s ∈ S := by
    have : s ∈ prs S := by rw [hP]; simp
    unfold prs at this; exact (List.mem_filter.mp this).1
  have hp1 : s.2.1 ≠ 1 := by
    have : s ∈ prs S := by rw [hP]; simp
    unfold prs at this; simpa using (List.mem_filter.mp this).2
  have key : prs (upS S s.1 t) = upS (prs S) s.1 t := by
    have : ∀ l : List SL, (∀ a, a ∈ l → a.1 = s.1 → a = s) → prs (upS l s.1 t) = upS (prs l) s.1 t := by
      intro l hl
      induction l with
      | nil => rfl
      | cons a l ih =>
        have ih' := ih (fun b hb => hl b (List.mem_cons_of_mem _ hb))
        unfold prs upS at ih' ⊢
        rw [List.map_cons, List.filter_cons, List.filter_cons]
        by_cases e : a.1 = s.1
        · have := hl a List.mem_cons_self e
          rw [if_pos e, this]
          simp only [ne_eq, ht, hp1, not_false_eq_true, decide_true, if_true, List.map_cons]
          rw [ih']
        · rw [if_neg e]
          by_cases e2 : a.2.1 = 1
          · simp only [ne_eq, e2, not_true_eq_false, decide_false, Bool.false_eq_true, if_false]
            exact ih'
          · simp only [ne_eq, e2, not_false_eq_true, decide_true, if_true, List.map_cons, if_neg e]
            rw [ih']
    refine this S fun a ha e => ?_
    obtain ⟨D1, R1, h1⟩ := mem_split ha
    obtain ⟨D2, R2, h2⟩ := mem_split hm
    have e1 := tr_mid w.2.1 h1
    have e2 := tr_mid w.2.1 h2
    rw [e] at e1
    exact Prod.ext e (e1.symm.trans e2)
  rw [key, hP, upS_mid]
  have nd : NDH (prs S) := by
    unfold NDH prs
    exact List.Nodup.sublist (List.Sublist.map _ List.filter_sublist) w.2.1
  rwa [hP] at nd
theorem prs_nd {S : List SL} (w : WS S) : NDH (prs S) := by
  unfold NDH prs
  exact List.Nodup.sublist (List.Sublist.map _ List.filter_sublist) w.2.1
theorem prs_rem {S D R : List SL} {s : SL} (w : WS S) (hP : prs S = D ++ s :: R) : prs (remS S s.1) = D ++ R := by
  have nd := prs_nd w
  rw [hP] at nd
  obtain ⟨h1, h2⟩ := nd_split nd
  have e : prs (remS S s.1) = keepS (prs S) s.1 := by
    unfold prs remS keepS
    rw [List.filter_append, List.filter_filter, List.filter_filter]
    simp [Bool.and_comm]
  rw [e, hP]
  unfold keepS
  rw [List.filter_append, List.filter_cons]
  have e1 := keep_self h1
  have e2 := keep_self h2
  unfold keepS at e1 e2
  simp only [ne_eq, not_true_eq_false, decide_false, Bool.false_eq_true, if_false] at e1 e2 ⊢
  rw [e1, e2]
theorem prs_mem {S : List SL} {s : SL} (hs : s ∈ prs S) : s ∈ S ∧ s.2.1 ≠ 1 := by
  unfold prs at hs; simpa using List.mem_filter.mp hs
theorem betw_congr {g g' : Nat → Int32} {x y : Nat} (hx : x < 7) (hy : y < 7) (e : ∀ k, k < 6 → g k = g' k) : betw g x y = betw g' x y := by
  unfold betw
  have : ∀ (c a : Nat) (z : Int32), a + c ≤ 6 → sumA g a c z = sumA g' a c z := by
    intro c
    induction c with
    | zero => intro a z _; rfl
    | succ c ih => intro a z ha; rw [sumA, sumA, e a (by omega), ih (a + 1) _ (by omega)]
  exact this _ _ _ (by omega)
/-- the reference's totals are the line's -/
def SRel (a f tk rt : Nat → Int32) : Prop := a 0 = f 0 ∧ a 2 = f 6 ∧ a 3 = f 7 ∧ a 4 = f 8 ∧ a 5 = f 9 ∧ a 6 = f 11 ∧ a 7 = f 12 ∧ a 8 = f 10 ∧ (∀ k, k < 7 → a (9 + k) = tk k) ∧ ∀ k, k < 6 → a (16 + k) = rt k
def ZRel (a : Nat → Int32) (n : Nat) : Prop := ∀ i, 22 + 9 * n ≤ i → i < 76 → a i = 0
/-- the reference's numbers are the line -/
def MR (a f tk rt : Nat → Int32) (P : List SL) : Prop := SRel a f tk rt ∧ TRel a P ∧ ZRel a P.length
theorem S_hi {a a' f tk rt : Nat → Int32} (hS : SRel a f tk rt) (e : ∀ i, i < 22 → i ≠ 1 → a' i = a i) : SRel a' f tk rt := by
  obtain ⟨h0, h2, h3, h4, h5, h6, h7, h8, h9, h10⟩ := hS
  exact ⟨by rw [e 0 (by decide) (by decide), h0], by rw [e 2 (by decide) (by decide), h2], by rw [e 3 (by decide) (by decide), h3], by rw [e 4 (by decide) (by decide), h4], by rw [e 5 (by decide) (by decide), h5], by rw [e 6 (by decide) (by decide), h6], by rw [e 7 (by decide) (by decide), h7], by rw [e 8 (by decide) (by decide), h8], fun k hk => by rw [e _ (by omega) (by omega), h9 k hk], fun k hk => by rw [e _ (by omega) (by omega), h10 k hk]⟩
theorem S_tr {a f f' tk rt : Nat → Int32} (hS : SRel a f tk rt) (e : ∀ i, i ≠ 5 → f' i = f i) : SRel a f' tk rt := by
  obtain ⟨h0, h2, h3, h4, h5, h6, h7, h8, h9, h10⟩ := hS
  exact ⟨by rw [e 0 (by decide), h0], by rw [e 6 (by decide), h2], by rw [e 7 (by decide), h3], by rw [e 8 (by decide), h4], by rw [e 9 (by decide), h5], by rw [e 11 (by decide), h6], by rw [e 12 (by decide), h7], by rw [e 10 (by decide), h8], h9, h10⟩
/-- who has come -/
def CR (c : Nat → Int32) (m : Nat) (t : Int32) (P : List SL) : Prop := ∀ s, s ∈ P → comN c (s.2.2 1) 0 m false = decide (s.2.2 11 = t)
theorem com_t (c : Nat → Int32) (v : Int32) : ∀ (n k : Nat), comN c v k n true = true
  | 0, _ => rfl
  | n + 1, k => by rw [comN, Bool.true_or]; exact com_t c v n (k + 1)
theorem com_up {c : Nat → Int32} {x v : Int32} {m : Nat} : ∀ (n k : Nat) (b : Bool), k + n = m → comN (up c m x) v k (n + 1) b = (comN c v k n b || decide (x = v))
  | 0, k, b, e => by
    have : k = m := by omega
    subst this
    simp [comN, up]
  | n + 1, k, b, e => by
    rw [comN, com_up n (k + 1) _ (by omega), comN, up_ne _ _ (by omega)]
theorem com_up0 (c : Nat → Int32) (x v : Int32) (m : Nat) : comN (up c m x) v 0 (m + 1) false = (comN c v 0 m false || decide (x = v)) := com_up m 0 false (by omega)
/-- the trains' numbers differ -/
def NUM (P : List SL) : Prop := (P.map fun s => s.2.2 1).Nodup
theorem num_split {D R : List SL} {s : SL} (nd : NUM (D ++ s :: R)) : (∀ a, a ∈ D → a.2.2 1 ≠ s.2.2 1) ∧ ∀ a, a ∈ R → a.2.2 1 ≠ s.2.2 1 := by
  unfold NUM at nd
  rw [List.map_append, List.nodup_append] at nd
  refine ⟨fun a ha e => nd.2.2 (a.2.2 1) (List.mem_map_of_mem ha) (s.2.2 1) (by simp) e, fun a ha e => ?_⟩
  exact (List.nodup_cons.mp nd.2.1).1 (List.mem_map.mpr ⟨a, ha, e⟩)
theorem CR_come {c : Nat → Int32} {m : Nat} {t : Int32} {D R : List SL} {s : SL} (hC : CR c m t (D ++ s :: R)) (nd : NUM (D ++ s :: R)) {u : TR} (h1 : u.2 1 = s.2.2 1) (h11 : u.2 11 = t) : CR (up c m (s.2.2 1)) (m + 1) t (D ++ (s.1, u) :: R) := by
  obtain ⟨n1, n2⟩ := num_split nd
  intro q hq
  rw [com_up0]
  have old : q ∈ D ∨ q ∈ R → (comN c (q.2.2 1) 0 m false || decide (s.2.2 1 = q.2.2 1)) = decide (q.2.2 11 = t) := by
    intro hh
    have hne : ¬ s.2.2 1 = q.2.2 1 := fun e => hh.elim (fun x => n1 q x e.symm) (fun x => n2 q x e.symm)
    rw [decide_eq_false hne, Bool.or_false]
    refine hC q ?_
    rcases hh with hh | hh
    · exact List.mem_append_left _ hh
    · exact List.mem_append_right _ (List.mem_cons_of_mem _ hh)
  rcases List.mem_append.mp hq with hh | hh
  · exact old (Or.inl hh)
  · rcases List.mem_cons.mp hh with rfl | hh
    · simp only []
      rw [h1, h11]; simp
    · exact old (Or.inr hh)
theorem CR_same {c : Nat → Int32} {m : Nat} {t : Int32} {D R : List SL} {s : SL} (hC : CR c m t (D ++ s :: R)) {u : TR} (h1 : u.2 1 = s.2.2 1) (h11 : u.2 11 = s.2.2 11) : CR c m t (D ++ (s.1, u) :: R) := by
  intro q hq
  rcases List.mem_append.mp hq with hh | hh
  · exact hC q (List.mem_append_left _ hh)
  · rcases List.mem_cons.mp hh with rfl | hh
    · have := hC s (by simp)
      simp only [] at this ⊢
      rw [h1, h11]; exact this
    · exact hC q (List.mem_append_right _ (List.mem_cons_of_mem _ hh))
theorem CR_del {c : Nat → Int32} {m : Nat} {t : Int32} {D R : List SL} {s : SL} (hC : CR c m t (D ++ s :: R)) : CR c m t (D ++ R) := fun q hq => hC q (by
  rcases List.mem_append.mp hq with hh | hh
  · exact List.mem_append_left _ hh
  · exact List.mem_append_right _ (List.mem_cons_of_mem _ hh))
theorem NUM_del {D R : List SL} {s : SL} (nd : NUM (D ++ s :: R)) : NUM (D ++ R) := by
  unfold NUM at nd ⊢
  exact List.Nodup.sublist (List.Sublist.map _ (List.Sublist.append_left (List.sublist_cons_self _ _) _)) nd
theorem NUM_set {D R : List SL} {s : SL} (nd : NUM (D ++ s :: R)) {u : TR} (h1 : u.2 1 = s.2.2 1) : NUM (D ++ (s.1, u) :: R) := by
  unfold NUM at nd ⊢
  rw [List.map_append, List.map_cons] at nd ⊢
  simp only [] at nd ⊢
  rw [h1]; exact nd
/-- what the reference wants of the train that moves -/
def mvM (rt : Nat → Int32) (q : LQ) (s : SL) : Prop := ¬ s.2.2 8 < 1 ∧ ahdT s.2 = s.2.2 6 ∧ (¬ 0 < s.2.2 8 - 1 → s.2.2 6 = s.2.2 3 → endK s.2 ∧ s.2.2 5 = s.2.2 4 + betw rt (s.2.2 2).toNatClampNeg (s.2.2 3).toNatClampNeg + iabs (s.2.2 3 - s.2.2 2) ∧ (q.1 8 = 0 → q.1 11 = 0 ∧ ¬ q.1 7 - s.2.2 5 < 0))
theorem pos_sub {x : Int32} (h : ¬ x < 1) : (0 < x - 1) = ¬ (x - 1 = 0) := by
  have hx : 1 ≤ x.toInt := by rw [Int32.lt_iff_toInt_lt] at h; have : (1 : Int32).toInt = 1 := rfl; omega
  have hl := Int32.toInt_lt x
  have h2 : (x - 1).toInt = x.toInt - 1 := by
    rw [Int32.toInt_sub, show (1 : Int32).toInt = 1 from rfl]
    exact Int.bmod_eq_of_le (by omega) (by omega)
  rw [Int32.lt_iff_toInt_lt, ← Int32.toInt_inj, h2]
  have : (0 : Int32).toInt = 0 := rfl
  exact propext (by omega)
section MMOVE
variable (h : PH) {p : Nat} (g : Nat → Int32) (A : Nat → Nat → Int32) (r : Nat × Nat × Nat) (tk rt : Nat → Int32)
/-- the totals as the reference makes them -/
def fnA (a : Nat → Int32) (t : TR) (d : Int32) : Nat → Int32 := up (up (up (up (up a 6 (if a 4 = 0 then d else imax (a 6) d)) 4 (a 4 + 1)) 7 (a 7 + if d = 0 then 1 else 0)) 8 (a 8 + d)) 5 (t.2 1)
theorem n181 (hp : 32 ≤ p) (a c : Nat → Int32) (m : Nat) {P D R : List SL} {s : SL} (hT : TRel a P) (hP : P = D ++ s :: R) (k : endK s.2) : rcal 181 [.ref p, .int (I D.length)] (mm h p g A a c m, r) = some (.inl none, (mm h p g A (lvF (fnA a s.2 (a 3 - plnM a s.2)) D.length) c m, r)) := by
  have h165 := n165 h g A r a c m (p := p) hT hP k
  have hl : D.length < 6 := by have := hT.2.1; rw [hP] at this; simp at this; omega
  have hn : ∀ f : Nat → Int32, f (22 + 9 * D.length) = a (22 + 9 * D.length) → ald (mm h p g A f c m, r) 100 (p + 1) (I (22 + 9 * D.length)) = some (.int (s.2.2 1)) := by
    intro f hf
    rw [mm_rA h g A r f c m (by omega), hf]
    have e := hT.2.2 D s R hP 0 (by decide)
    rw [Nat.add_zero] at e
    rw [e]; rfl
  have him : ∀ x y : Int32, (if x < y then y else x) = imax x y := fun _ _ => rfl
  have q4 : 22 + 9 * D.length ≠ 4 := by omega
  have q5 : 22 + 9 * D.length ≠ 5 := by omega
  have q6 : 22 + 9 * D.length ≠ 6 := by omega
  have q7 : 22 + 9 * D.length ≠ 7 := by omega
  have q8 : 22 + 9 * D.length ≠ 8 := by omega
  have fin : ∀ a', a' = fnA a s.2 (a 3 - plnM a s.2) → rcal 166 [.ref p, .int (I D.length)] (mm h p g A a' c m, r) = some (.inl none, (mm h p g A (lvF (fnA a s.2 (a 3 - plnM a s.2)) D.length) c m, r)) := fun a' e => by
    rw [e]; exact n166 h g A r _ c m hp hl
  simp only [c181, x181_0, x181_1, x181_4, x181_5, x181_6, x181_7, x181_8, x181_11, x181_12, x181_13, x181_14, x181_17, x181_19, x181_20, x181_23, x181_24, x181_25, x181_28, x181_29, x181_43, x181_44, x181_45, x181_48, x181_49, x181_50, x181_51, x181_52, x181_53, x181_54, x181_55, x181_58, x181_60, x181_61, x181_62, x181_63, x181_66, x181_67, x181_71, x181_72, x181_73, x181_74, x181_77, x181_79, x181_80, x181_81, x181_82, x181_83, x181_84, x181_85, x181_88, x181_89, x181_90, x181_93, x181_94, x181_97, x181_98, x181_99, x181_100, x181_101, x181_104, x181_70, x181_32, x181_33, x181_36, x181_38, x181_39, x181_40, gk_some, pk_some, qk_some, bnd_v, bnd_n, kl_int, kl_ref, kl_null, kl_un, Nat.reduceAdd, if_true, if_false, mm_0, mm_12, mm_13, mm_rv, mm_l0, mm_l1, mm_l3, mm_l4, mm_l5, mm_l6, mm_l7, mm_l8, h165]
  by_cases e4 : a 4 = 0
  · by_cases ed : a 3 - plnM a s.2 = 0
    · have f2 := fin (up (up (up (up (up a 6 0) 4 (a 4 + 1)) 7 (a 7 + 1)) 8 (a 8 + 0)) 5 (s.2.2 1)) (by unfold fnA; rw [ed, if_pos e4, if_pos rfl])
      rw [e4] at f2
      simp only [e4, ed, fit1, fit0, fitb, b2i_t, b2i_f, reduceIte, decide_true, decide_false, x181_0, x181_1, x181_4, x181_5, x181_6, x181_7, x181_8, x181_11, x181_12, x181_13, x181_14, x181_17, x181_19, x181_20, x181_23, x181_24, x181_25, x181_28, x181_29, x181_43, x181_44, x181_45, x181_48, x181_49, x181_50, x181_51, x181_52, x181_53, x181_54, x181_55, x181_58, x181_60, x181_61, x181_62, x181_63, x181_66, x181_67, x181_71, x181_72, x181_73, x181_74, x181_77, x181_79, x181_80, x181_81, x181_82, x181_83, x181_84, x181_85, x181_88, x181_89, x181_90, x181_93, x181_94, x181_97, x181_98, x181_99, x181_100, x181_101, x181_104, x181_70, x181_32, x181_33, x181_36, x181_38, x181_39, x181_40, gk_some, pk_some, qk_some, bnd_v, bnd_n, kl_int, kl_ref, kl_null, kl_un, Nat.reduceAdd, if_true, if_false, mm_0, mm_12, mm_13, mm_rv, mm_l0, mm_l1, mm_l3, mm_l4, mm_l5, mm_l6, mm_l7, mm_l8, him, mm_w1 h _ _ _ _ _ _ hp, mm_w4 h _ _ _ _ _ _ hp, mm_w5 h _ _ _ _ _ _ hp, mm_w6 h _ _ _ _ _ _ hp, mm_w7 h _ _ _ _ _ _ hp, mm_w8 h _ _ _ _ _ _ hp, up_eq, up_ne, ne_eq, not_false_eq_true, Nat.reduceEqDiff, m154, hn, q4, q5, q6, q7, q8, f2]
    · have f2 := fin (up (up (up (up (up a 6 (a 3 - plnM a s.2)) 4 (a 4 + 1)) 7 (a 7 + 0)) 8 (a 8 + (a 3 - plnM a s.2))) 5 (s.2.2 1)) (by unfold fnA; rw [if_pos e4, if_neg ed])
      rw [e4] at f2
      simp only [e4, ed, fit1, fit0, fitb, b2i_t, b2i_f, reduceIte, decide_true, decide_false, x181_0, x181_1, x181_4, x181_5, x181_6, x181_7, x181_8, x181_11, x181_12, x181_13, x181_14, x181_17, x181_19, x181_20, x181_23, x181_24, x181_25, x181_28, x181_29, x181_43, x181_44, x181_45, x181_48, x181_49, x181_50, x181_51, x181_52, x181_53, x181_54, x181_55, x181_58, x181_60, x181_61, x181_62, x181_63, x181_66, x181_67, x181_71, x181_72, x181_73, x181_74, x181_77, x181_79, x181_80, x181_81, x181_82, x181_83, x181_84, x181_85, x181_88, x181_89, x181_90, x181_93, x181_94, x181_97, x181_98, x181_99, x181_100, x181_101, x181_104, x181_70, x181_32, x181_33, x181_36, x181_38, x181_39, x181_40, gk_some, pk_some, qk_some, bnd_v, bnd_n, kl_int, kl_ref, kl_null, kl_un, Nat.reduceAdd, if_true, if_false, mm_0, mm_12, mm_13, mm_rv, mm_l0, mm_l1, mm_l3, mm_l4, mm_l5, mm_l6, mm_l7, mm_l8, him, mm_w1 h _ _ _ _ _ _ hp, mm_w4 h _ _ _ _ _ _ hp, mm_w5 h _ _ _ _ _ _ hp, mm_w6 h _ _ _ _ _ _ hp, mm_w7 h _ _ _ _ _ _ hp, mm_w8 h _ _ _ _ _ _ hp, up_eq, up_ne, ne_eq, not_false_eq_true, Nat.reduceEqDiff, m154, hn, q4, q5, q6, q7, q8, f2]
  · by_cases ed : a 3 - plnM a s.2 = 0
    · have f2 := fin (up (up (up (up (up a 6 (imax (a 6) 0)) 4 (a 4 + 1)) 7 (a 7 + 1)) 8 (a 8 + 0)) 5 (s.2.2 1)) (by unfold fnA; rw [ed, if_neg e4, if_pos rfl])
      simp only [e4, ed, fit1, fit0, fitb, b2i_t, b2i_f, reduceIte, decide_true, decide_false, x181_0, x181_1, x181_4, x181_5, x181_6, x181_7, x181_8, x181_11, x181_12, x181_13, x181_14, x181_17, x181_19, x181_20, x181_23, x181_24, x181_25, x181_28, x181_29, x181_43, x181_44, x181_45, x181_48, x181_49, x181_50, x181_51, x181_52, x181_53, x181_54, x181_55, x181_58, x181_60, x181_61, x181_62, x181_63, x181_66, x181_67, x181_71, x181_72, x181_73, x181_74, x181_77, x181_79, x181_80, x181_81, x181_82, x181_83, x181_84, x181_85, x181_88, x181_89, x181_90, x181_93, x181_94, x181_97, x181_98, x181_99, x181_100, x181_101, x181_104, x181_70, x181_32, x181_33, x181_36, x181_38, x181_39, x181_40, gk_some, pk_some, qk_some, bnd_v, bnd_n, kl_int, kl_ref, kl_null, kl_un, Nat.reduceAdd, if_true, if_false, mm_0, mm_12, mm_13, mm_rv, mm_l0, mm_l1, mm_l3, mm_l4, mm_l5, mm_l6, mm_l7, mm_l8, him, mm_w1 h _ _ _ _ _ _ hp, mm_w4 h _ _ _ _ _ _ hp, mm_w5 h _ _ _ _ _ _ hp, mm_w6 h _ _ _ _ _ _ hp, mm_w7 h _ _ _ _ _ _ hp, mm_w8 h _ _ _ _ _ _ hp, up_eq, up_ne, ne_eq, not_false_eq_true, Nat.reduceEqDiff, m154, hn, q4, q5, q6, q7, q8, f2]
    · have f2 := fin (up (up (up (up (up a 6 (imax (a 6) (a 3 - plnM a s.2))) 4 (a 4 + 1)) 7 (a 7 + 0)) 8 (a 8 + (a 3 - plnM a s.2))) 5 (s.2.2 1)) (by unfold fnA; rw [if_neg e4, if_neg ed])
      simp only [e4, ed, fit1, fit0, fitb, b2i_t, b2i_f, reduceIte, decide_true, decide_false, x181_0, x181_1, x181_4, x181_5, x181_6, x181_7, x181_8, x181_11, x181_12, x181_13, x181_14, x181_17, x181_19, x181_20, x181_23, x181_24, x181_25, x181_28, x181_29, x181_43, x181_44, x181_45, x181_48, x181_49, x181_50, x181_51, x181_52, x181_53, x181_54, x181_55, x181_58, x181_60, x181_61, x181_62, x181_63, x181_66, x181_67, x181_71, x181_72, x181_73, x181_74, x181_77, x181_79, x181_80, x181_81, x181_82, x181_83, x181_84, x181_85, x181_88, x181_89, x181_90, x181_93, x181_94, x181_97, x181_98, x181_99, x181_100, x181_101, x181_104, x181_70, x181_32, x181_33, x181_36, x181_38, x181_39, x181_40, gk_some, pk_some, qk_some, bnd_v, bnd_n, kl_int, kl_ref, kl_null, kl_un, Nat.reduceAdd, if_true, if_false, mm_0, mm_12, mm_13, mm_rv, mm_l0, mm_l1, mm_l3, mm_l4, mm_l5, mm_l6, mm_l7, mm_l8, him, mm_w1 h _ _ _ _ _ _ hp, mm_w4 h _ _ _ _ _ _ hp, mm_w5 h _ _ _ _ _ _ hp, mm_w6 h _ _ _ _ _ _ hp, mm_w7 h _ _ _ _ _ _ hp, mm_w8 h _ _ _ _ _ _ hp, up_eq, up_ne, ne_eq, not_false_eq_true, Nat.reduceEqDiff, m154, hn, q4, q5, q6, q7, q8, f2]
theorem TR_1 {a : Nat → Int32} {D R : List SL} {s : SL} (hT : TRel a (D ++ s :: R)) (k0 : Nat) (hk : k0 < 9) (v : Int32) {t : TR} (e0 : mt t k0 = v) (eo : ∀ k, k < 9 → k ≠ k0 → mt t k = mt s.2 k) : TRel (up a (22 + 9 * D.length + k0) v) (D ++ (s.1, t) :: R) := by
  refine TR_set t hT (up_ne _ _ (by omega)) (fun i hi => up_ne _ _ (by omega)) fun k hk9 => ?_
  by_cases e : k = k0
  · subst e; rw [up_eq, e0]
  · rw [up_ne _ _ (by omega), eo k hk9 e]; exact hT.2.2 D s R rfl k hk9
theorem MR_1 {a f tk rt : Nat → Int32} {D R : List SL} {s : SL} (hM : MR a f tk rt (D ++ s :: R)) (k0 : Nat) (hk : k0 < 9) (v : Int32) {t : TR} (e0 : mt t k0 = v) (eo : ∀ k, k < 9 → k ≠ k0 → mt t k = mt s.2 k) : MR (up a (22 + 9 * D.length + k0) v) f tk rt (D ++ (s.1, t) :: R) := by
  obtain ⟨hS, hT, hZ⟩ := hM
  refine ⟨S_hi hS fun i hi _ => up_ne _ _ (by omega), TR_1 hT k0 hk v e0 eo, fun i h1 h2 => ?_⟩
  simp only [List.length_append, List.length_cons] at h1
  rw [up_ne _ _ (by omega)]
  exact hZ i (by simpa using h1) h2
theorem MR_cm {a f tk rt : Nat → Int32} {D R : List SL} {s : SL} (hM : MR a f tk rt (D ++ s :: R)) (v : Int32) {t : TR} (h3 : t.1 = 3) (h6 : t.2 6 = v) (ho : ∀ i, i = 1 ∨ i = 2 ∨ i = 3 ∨ i = 4 ∨ i = 9 ∨ i = 10 → t.2 i = s.2.2 i) : MR (cmF a D.length v) f tk rt (D ++ (s.1, t) :: R) := by
  obtain ⟨hS, hT, hZ⟩ := hM
  refine ⟨S_hi hS fun i hi _ => ?_, TR_cm hT v h3 h6 ho, fun i h1 h2 => ?_⟩
  · unfold cmF; rw [up_ne _ _ (by omega), up_ne _ _ (by omega), up_ne _ _ (by omega)]
  · simp only [List.length_append, List.length_cons] at h1
    unfold cmF; rw [up_ne _ _ (by omega), up_ne _ _ (by omega), up_ne _ _ (by omega)]
    exact hZ i (by simpa using h1) h2
theorem MR_del {a f f' tk rt : Nat → Int32} {D R : List SL} {s : SL} (hM : MR a f tk rt (D ++ s :: R)) (e : ∀ i, i ≠ 5 → f' i = f i) : MR (lvF a D.length) f' tk rt (D ++ R) := by
  obtain ⟨hS, hT, hZ⟩ := hM
  have hl := hT.2.1
  simp at hl
  refine ⟨S_tr (S_hi hS fun i hi h1 => lv_o (by omega) h1 (by omega)) e, TR_lv hT, fun i h1 h2 => ?_⟩
  simp only [List.length_append] at h1
  by_cases c : i < 67
  · rw [lv_n (by omega) c]
    refine hZ (i + 9) ?_ (by omega)
    simp only [List.length_append, List.length_cons]; omega
  · exact lv_z (by omega) h2
theorem MR_tot {a f tk rt : Nat → Int32} {P : List SL} (hM : MR a f tk rt P) {t t' : TR} (hpl : plnM a t = t'.2 5) (h1 : t.2 1 = t'.2 1) (h0 : f 8 = 0 → f 11 = 0 ∧ ¬ f 7 - t'.2 5 < 0) : MR (fnA a t (a 3 - plnM a t)) (up (finF f t') 5 (f 5)) tk rt P := by
  obtain ⟨⟨s0, s2, s3, s4, s5, s6, s7, s8, s9, s10⟩, hT, hZ⟩ := hM
  have hi : ∀ i, i ≠ 4 → i ≠ 5 → i ≠ 6 → i ≠ 7 → i ≠ 8 → fnA a t (a 3 - plnM a t) i = a i := by
    intro i i4 i5 i6 i7 i8
    unfold fnA
    rw [up_ne _ _ i5, up_ne _ _ i8, up_ne _ _ i7, up_ne _ _ i4, up_ne _ _ i6]
  have hd : a 3 - plnM a t = f 7 - t'.2 5 := by rw [s3, hpl]
  have hff : ∀ i, i ≠ 5 → i ≠ 8 → i ≠ 9 → i ≠ 10 → i ≠ 11 → i ≠ 12 → finF f t' i = f i := by
    intro i i5 i8 i9 i10 i11 i12
    unfold finF
    rw [up_ne _ _ i5, up_ne _ _ i9, up_ne _ _ i8, up_ne _ _ i10]
    by_cases c : f 7 - t'.2 5 = 0
    · rw [if_pos c, up_ne _ _ i12, up_ne _ _ i11]
    · rw [if_neg c, up_ne _ _ i11]
  refine ⟨⟨?_, ?_, ?_, ?_, ?_, ?_, ?_, ?_, ?_, ?_⟩, ?_, ?_⟩
  · rw [hi 0 (by decide) (by decide) (by decide) (by decide) (by decide), s0, up_ne _ _ (by decide), hff 0 (by decide) (by decide) (by decide) (by decide) (by decide) (by decide)]
  · rw [hi 2 (by decide) (by decide) (by decide) (by decide) (by decide), s2, up_ne _ _ (by decide), hff 6 (by decide) (by decide) (by decide) (by decide) (by decide) (by decide)]
  · rw [hi 3 (by decide) (by decide) (by decide) (by decide) (by decide), s3, up_ne _ _ (by decide), hff 7 (by decide) (by decide) (by decide) (by decide) (by decide) (by decide)]
  · rw [up_ne _ _ (by decide)]; simp [fnA, finF, up, s4]
  · rw [up_ne _ _ (by decide)]; simp [fnA, finF, up, h1]
  · rw [up_ne _ _ (by decide)]
    have e1 : finF f t' 11 = imax (f 11) (f 7 - t'.2 5) := by
      unfold finF
      by_cases c : f 7 - t'.2 5 = 0
      · rw [if_pos c]; simp [up]
      · rw [if_neg c]; simp [up]
    have e2 : fnA a t (a 3 - plnM a t) 6 = if a 4 = 0 then a 3 - plnM a t else imax (a 6) (a 3 - plnM a t) := by simp [fnA, up]
    rw [e1, e2, hd, s4, s6]
    by_cases c : f 8 = 0
    · obtain ⟨c1, c2⟩ := h0 c
      rw [if_pos c, c1]
      unfold imax
      by_cases c3 : 0 < f 7 - t'.2 5
      · rw [if_pos c3]
      · rw [if_neg c3]
        rw [← Int32.toInt_inj]
        rw [Int32.lt_iff_toInt_lt] at c2 c3
        have : (0 : Int32).toInt = 0 := rfl
        omega
    · rw [if_neg c]
  · rw [up_ne _ _ (by decide)]
    have e2 : fnA a t (a 3 - plnM a t) 7 = a 7 + (if a 3 - plnM a t = 0 then 1 else 0) := by simp [fnA, up]
    have e1 : finF f t' 12 = f 12 + (if f 7 - t'.2 5 = 0 then 1 else 0) := by
      unfold finF
      by_cases c : f 7 - t'.2 5 = 0
      · rw [if_pos c, if_pos c]; simp [up]
      · rw [if_neg c, if_neg c]; simp [up]
    rw [e1, e2, hd, s7]
  · rw [up_ne _ _ (by decide)]
    have e2 : fnA a t (a 3 - plnM a t) 8 = a 8 + (a 3 - plnM a t) := by simp [fnA, up]
    have e1 : finF f t' 10 = f 10 + (f 7 - t'.2 5) := by
      unfold finF
      by_cases c : f 7 - t'.2 5 = 0
      · rw [if_pos c]; simp [up]
      · rw [if_neg c]; simp [up]
    rw [e1, e2, hd, s8]
  · intro k hk; rw [hi _ (by omega) (by omega) (by omega) (by omega) (by omega), s9 k hk]
  · intro k hk; rw [hi _ (by omega) (by omega) (by omega) (by omega) (by omega), s10 k hk]
  · refine ⟨by rw [hi 1 (by decide) (by decide) (by decide) (by decide) (by decide), hT.1], hT.2.1, fun D s R hP k hk => ?_⟩
    rw [hi _ (by omega) (by omega) (by omega) (by omega) (by omega), hT.2.2 D s R hP k hk]
  · intro i h1 h2
    rw [hi _ (by omega) (by omega) (by omega) (by omega) (by omega), hZ i h1 h2]
def mvMN (rt : Nat → Int32) : Nat → Nat → LQ → Prop
  | _, 0, _ => True
  | k, n + 1, q => (WS q.2 ∧ ∀ s, q.2.find? (holP (I k)) = some s → mvM rt q s) ∧ mvMN rt (k + 1) n (mv1 (I k) q)
theorem finF_7 (f : Nat → Int32) (t : TR) : finF f t 7 = f 7 := by
  unfold finF
  by_cases e : f 7 - t.2 5 = 0
  · rw [if_pos e]; simp [up]
  · rw [if_neg e]; simp [up]
theorem l182 (hp : 32 ≤ p) {N : Nat} (h7 : N ≤ 7) (h1N : 1 ≤ N) : ∀ (n k : Nat) (q : LQ) (a c : Nat → Int32) (m : Nat) (z1 z2 : Value), k + n = N - 1 → q.1 0 = I N → MR a q.1 tk rt (prs q.2) → CR c m (q.1 7) (prs q.2) → NUM (prs q.2) → m ≤ k → mvMN rt k n q →
    ∃ a' c' m', rn 182 2 [.ref p, .int (I k), z1, z2] [] (mm h p g A a c m, r) = some (.inl none, (mm h p g A a' c' m', r)) ∧ MR a' (mvN k n q).1 tk rt (prs (mvN k n q).2) ∧ CR c' m' ((mvN k n q).1 7) (prs (mvN k n q).2) ∧ NUM (prs (mvN k n q).2) ∧ m' ≤ k + n := by
  intro n
  induction n with
  | zero =>
    intro k q a c m z1 z2 hk h0 hM hC hN hm _
    have hlt : ¬ I k < I (N - 1) := by rw [I_lt (by omega) (by omega)]; omega
    refine ⟨a, c, m, ?_, hM, hC, hN, by omega⟩
    rw [x182_2]
    simp only [x182_0, x182_1, x182_3, x182_4, x182_7, x182_8, x182_9, x182_10, x182_11, x182_14, x182_15, x182_16, x182_19, x182_20, x182_21, x182_22, x182_25, x182_26, x182_29, x182_30, x182_33, x182_35, x182_36, x182_37, x182_38, x182_39, x182_40, x182_41, x182_42, x182_45, x182_46, x182_49, x182_51, x182_52, x182_53, x182_56, x182_57, x182_58, x182_61, x182_62, x182_63, x182_64, x182_67, x182_68, x182_71, x182_72, x182_73, x182_74, x182_77, x182_78, x182_79, x182_82, x182_91, x182_94, x182_85, x182_86, x182_87, x182_88, x182_97, gk_some, pk_some, qk_some, bnd_v, bnd_n, kl_int, kl_ref, kl_null, kl_un, Nat.reduceAdd, if_true, if_false, mm_0, mm_12, mm_13, mm_rv, mm_l0, mm_l1, mm_l3, mm_l4, mm_l5, mm_l6, mm_l7, mm_l8, hM.1.1, h0, I_sub1 h1N, hlt]
  | succ n ih =>
    intro k q a c m z1 z2 hk h0 hM hC hN hm hK
    obtain ⟨⟨w, hK1⟩, hK2⟩ := hK
    have hlt : I k < I (N - 1) := by rw [I_lt (by omega) (by omega)]; omega
    have h160 := n160 h g A r a c m (p := p) hM.2.1 (I k)
    have ih' := fun a c m z1 z2 hM hC hN hm => ih (k + 1) (mv1 (I k) q) a c m z1 z2 (by omega) (by rw [mv1_0]; exact h0) hM hC hN hm hK2
    cases e : q.2.find? (holP (I k)) with
    | none =>
      have e1 : mv1 (I k) q = q := by unfold mv1; rw [e]
      have ep : (prs q.2).find? (holP (I k)) = none := by rw [find_prs (hol_pr _)]; exact e
      rw [fidx_none 0 ep] at h160
      rw [e1] at ih'
      obtain ⟨a', c', m', r1, r2, r3, r4, r5⟩ := ih' a c m (.int (-1)) z2 hM hC hN (by omega)
      rw [mvN, e1]
      refine ⟨a', c', m', ?_, r2, r3, r4, by omega⟩
      rw [x182_2]
      have kk : kl (.int (I (k + 1))) = .int (I (k + 1)) := rfl
      simp only [x182_0, x182_1, x182_3, x182_4, x182_7, x182_8, x182_9, x182_10, x182_11, x182_14, x182_15, x182_16, x182_19, x182_20, x182_21, x182_22, x182_25, x182_26, x182_29, x182_30, x182_33, x182_35, x182_36, x182_37, x182_38, x182_39, x182_40, x182_41, x182_42, x182_45, x182_46, x182_49, x182_51, x182_52, x182_53, x182_56, x182_57, x182_58, x182_61, x182_62, x182_63, x182_64, x182_67, x182_68, x182_71, x182_72, x182_73, x182_74, x182_77, x182_78, x182_79, x182_82, x182_91, x182_94, x182_85, x182_86, x182_87, x182_88, x182_97, gk_some, pk_some, qk_some, bnd_v, bnd_n, kl_int, kl_ref, kl_null, kl_un, Nat.reduceAdd, if_true, if_false, mm_0, mm_12, mm_13, mm_rv, mm_l0, mm_l1, mm_l3, mm_l4, mm_l5, mm_l6, mm_l7, mm_l8, hM.1.1, h0, I_sub1 h1N, hlt, h160, I_1, r1]
    | some s =>
      have hs := hK1 s e
      obtain ⟨k1, k2, k3⟩ := hs
      obtain ⟨g1, g2, g3, g4⟩ := find_has w.2.1 e
      have hpl4 : s.2.1 = 4 := by simp [holP] at g4; exact g4.1
      have ep : (prs q.2).find? (holP (I k)) = some s := by rw [find_prs (hol_pr _)]; exact e
      obtain ⟨D, R, hP, hfi⟩ := fidx_some 0 ep
      rw [hfi, Nat.zero_add] at h160
      have hl6 : D.length < 6 := by have := hM.2.1.2.1; rw [hP] at this; simp at this; omega
      have hr := nrd h g A r a c m (p := p) hM.2.1 hP
      have hw := mm_wA h g A r a c m hp (n := 22 + 9 * D.length + 6) (by omega) (s.2.2 8 - 1)
      have hM2 := hM
      have hC2 := hC
      have hN2 := hN
      rw [hP] at hM2 hC2 hN2
      have hM3 : MR (up a (22 + 9 * D.length + 6) (s.2.2 8 - 1)) q.1 tk rt (D ++ (s.1, (s.2.1, up s.2.2 8 (s.2.2 8 - 1))) :: R) := by
        refine MR_1 hM2 6 (by decide) _ (by simp [mt, lft, hpl4, up]) fun i hi hne => ?_
        rcases (by omega : i = 0 ∨ i = 1 ∨ i = 2 ∨ i = 3 ∨ i = 4 ∨ i = 5 ∨ i = 7 ∨ i = 8) with rfl | rfl | rfl | rfl | rfl | rfl | rfl | rfl <;> simp [mt, up, whr, plc]
      have hC3 : CR c m (q.1 7) (D ++ (s.1, (s.2.1, up s.2.2 8 (s.2.2 8 - 1))) :: R) := CR_same hC2 (by simp [up]) (by simp [up])
      have hN3 : NUM (D ++ (s.1, (s.2.1, up s.2.2 8 (s.2.2 8 - 1))) :: R) := NUM_set hN2 (by simp [up])
      have hpr : prs (upS q.2 s.1 (s.2.1, up s.2.2 8 (s.2.2 8 - 1))) = D ++ (s.1, (s.2.1, up s.2.2 8 (s.2.2 8 - 1))) :: R := prs_up w hP (by rw [hpl4]; decide)
      have w' : WS (upS q.2 s.1 (s.2.1, up s.2.2 8 (s.2.2 8 - 1))) := WS_up w s.1 (w.2.2.1 s g3) (by simpa [up] using w.2.2.2.2 s g3)
      have hr2 := nrd h g A r (up a (22 + 9 * D.length + 6) (s.2.2 8 - 1)) c m (p := p) hM3.2.1 rfl
      have hne := ne_m1 (show D.length < 2147483648 by omega)
      have h159 := n159 h g A r (up a (22 + 9 * D.length + 6) (s.2.2 8 - 1)) c m (p := p) hM3.2.1 rfl
      have hah : ahdT (s.2.1, up s.2.2 8 (s.2.2 8 - 1)) = s.2.2 6 := by rw [← k2]; simp [ahdT, plc, up]
      rw [hah] at h159
      by_cases e2 : s.2.2 8 - 1 = 0
      · have e2' : ¬ 0 < s.2.2 8 - 1 := by rw [pos_sub k1]; simpa using e2
        have em : mv1 (I k) q = arr1 q.1 (upS q.2 s.1 (s.2.1, up s.2.2 8 (s.2.2 8 - 1))) s.1 := by unfold mv1; rw [e]; simp only [e2', if_false]
        have ht : tr (upS q.2 s.1 (s.2.1, up s.2.2 8 (s.2.2 8 - 1))) s.1 = (s.2.1, up s.2.2 8 (s.2.2 8 - 1)) := tr_up g1 _
        by_cases e3 : s.2.2 6 = s.2.2 3
        · obtain ⟨q1, q2, q3⟩ := k3 e2' e3
          have ea : arr1 q.1 (upS q.2 s.1 (s.2.1, up s.2.2 8 (s.2.2 8 - 1))) s.1 = (finF q.1 (s.2.1, up s.2.2 8 (s.2.2 8 - 1)), remS (upS q.2 s.1 (s.2.1, up s.2.2 8 (s.2.2 8 - 1))) s.1) := by
            unfold arr1; rw [ht]; rw [if_pos (by simpa [up] using e3)]
          have h181 := n181 h g A r hp (up a (22 + 9 * D.length + 6) (s.2.2 8 - 1)) c m hM3.2.1 rfl (show endK (s.2.1, up s.2.2 8 (s.2.2 8 - 1)) by simpa [endK, up] using q1)
          have hpln : plnM (up a (22 + 9 * D.length + 6) (s.2.2 8 - 1)) (s.2.1, up s.2.2 8 (s.2.2 8 - 1)) = s.2.2 5 := by
            unfold plnM
            simp only [up_ne _ _ (show 2 ≠ 8 by decide), up_ne _ _ (show 3 ≠ 8 by decide), up_ne _ _ (show 4 ≠ 8 by decide)]
            rw [q2, betw_congr q1.1.2 q1.2.2 hM3.1.2.2.2.2.2.2.2.2.2]
          have hMt := MR_tot hM3 (t := (s.2.1, up s.2.2 8 (s.2.2 8 - 1))) (t' := (s.2.1, up s.2.2 8 (s.2.2 8 - 1))) (by rw [hpln]; simp [up]) rfl (by simpa [up] using q3)
          have hMd := MR_del (f' := finF q.1 (s.2.1, up s.2.2 8 (s.2.2 8 - 1))) hMt (fun i hi => (up_ne _ _ hi).symm)
          have hpr2 : prs (remS (upS q.2 s.1 (s.2.1, up s.2.2 8 (s.2.2 8 - 1))) s.1) = D ++ R := prs_rem (s := (s.1, (s.2.1, up s.2.2 8 (s.2.2 8 - 1)))) w' hpr
          have e1 : mv1 (I k) q = (finF q.1 (s.2.1, up s.2.2 8 (s.2.2 8 - 1)), remS (upS q.2 s.1 (s.2.1, up s.2.2 8 (s.2.2 8 - 1))) s.1) := em.trans ea
          rw [e1] at ih'
          simp only [] at ih'
          rw [hpr2, finF_7] at ih'
          obtain ⟨a', c', m', r1, r2, r3, r4, r5⟩ := ih' _ c m (.int (I D.length)) (.int (s.2.2 3)) hMd (CR_del hC3) (NUM_del hN3) (by omega)
          rw [mvN, e1]
          refine ⟨a', c', m', ?_, r2, r3, r4, by omega⟩
          rw [x182_2]
          have u3 : mt (s.2.1, up s.2.2 8 (s.2.2 8 - 1)) 2 = s.2.2 3 := by simp [mt, up]
          have u6 : mt (s.2.1, up s.2.2 8 (s.2.2 8 - 1)) 6 = s.2.2 8 - 1 := by simp [mt, lft, hpl4, up]
          have u6' : mt s.2 6 = s.2.2 8 := by simp [mt, lft, hpl4]
          simp only [x182_0, x182_1, x182_3, x182_4, x182_7, x182_8, x182_9, x182_10, x182_11, x182_14, x182_15, x182_16, x182_19, x182_20, x182_21, x182_22, x182_25, x182_26, x182_29, x182_30, x182_33, x182_35, x182_36, x182_37, x182_38, x182_39, x182_40, x182_41, x182_42, x182_45, x182_46, x182_49, x182_51, x182_52, x182_53, x182_56, x182_57, x182_58, x182_61, x182_62, x182_63, x182_64, x182_67, x182_68, x182_71, x182_72, x182_73, x182_74, x182_77, x182_78, x182_79, x182_82, x182_91, x182_94, x182_85, x182_86, x182_87, x182_88, x182_97, gk_some, pk_some, qk_some, bnd_v, bnd_n, kl_int, kl_ref, kl_null, kl_un, Nat.reduceAdd, if_true, if_false, mm_0, mm_12, mm_13, mm_rv, mm_l0, mm_l1, mm_l3, mm_l4, mm_l5, mm_l6, mm_l7, mm_l8, hM.1.1, h0, I_sub1 h1N, hlt, h160, hne, m154, I_1, Ia2, Ia3, Ia4, Ia5, Ia6, Ia7, Ia8, Ia9, Ia10, Ia11, Ia12, Il9, Il16, Il22, Il76, Im9, hr, show 6 < 9 by decide, u6', hw, hM3.1.1, hr2, u6, if_pos e2, h159, show 2 < 9 by decide, u3, e3, h181, r1]
        · have hM4 := MR_cm hM3 (s.2.2 6) (t := (3, up (up (up s.2.2 8 (s.2.2 8 - 1)) 6 (s.2.2 6)) 11 (q.1 7))) rfl (by simp [up]) (by intro i hi; rcases hi with rfl | rfl | rfl | rfl | rfl | rfl <;> simp [up])
          have ea : arr1 q.1 (upS q.2 s.1 (s.2.1, up s.2.2 8 (s.2.2 8 - 1))) s.1 = (q.1, upS q.2 s.1 (3, up (up (up s.2.2 8 (s.2.2 8 - 1)) 6 (s.2.2 6)) 11 (q.1 7))) := by
            unfold arr1; rw [ht]
            rw [if_neg (by simpa [up] using e3), upS_upS]
            simp [up]
          have e1 := em.trans ea
          rw [e1] at ih'
          simp only [] at ih'
          have hpr2 : prs (upS q.2 s.1 (3, up (up (up s.2.2 8 (s.2.2 8 - 1)) 6 (s.2.2 6)) 11 (q.1 7))) = D ++ (s.1, (3, up (up (up s.2.2 8 (s.2.2 8 - 1)) 6 (s.2.2 6)) 11 (q.1 7))) :: R := prs_up w hP (by show ¬ 3 = 1; decide)
          rw [hpr2] at ih'
          have h180 := n180 h g A r (up a (22 + 9 * D.length + 6) (s.2.2 8 - 1)) c m hp hl6 (by omega) (s.2.2 6)
          have hnum : up a (22 + 9 * D.length + 6) (s.2.2 8 - 1) (22 + 9 * D.length) = s.2.2 1 := by
            rw [up_ne _ _ (by omega)]
            have := hM.2.1.2.2 D s R hP 0 (by decide)
            simpa [mt] using this
          rw [hnum] at h180
          have hC4 := CR_come hC3 hN3 (u := (3, up (up (up s.2.2 8 (s.2.2 8 - 1)) 6 (s.2.2 6)) 11 (q.1 7))) (by simp [up]) (by simp [up])
          have hnn : up s.2.2 8 (s.2.2 8 - 1) 1 = s.2.2 1 := by simp [up]
          simp only [hnn] at hC4
          have hN4 : NUM (D ++ (s.1, (3, up (up (up s.2.2 8 (s.2.2 8 - 1)) 6 (s.2.2 6)) 11 (q.1 7))) :: R) := NUM_set hN2 (by simp [up])
          obtain ⟨a', c', m', r1, r2, r3, r4, r5⟩ := ih' _ _ (m + 1) (.int (I D.length)) (.int (s.2.2 6)) hM4 hC4 hN4 (by omega)
          rw [mvN, e1]
          refine ⟨a', c', m', ?_, r2, r3, r4, by omega⟩
          rw [x182_2]
          have u3 : mt (s.2.1, up s.2.2 8 (s.2.2 8 - 1)) 2 = s.2.2 3 := by simp [mt, up]
          have u6 : mt (s.2.1, up s.2.2 8 (s.2.2 8 - 1)) 6 = s.2.2 8 - 1 := by simp [mt, lft, hpl4, up]
          have u6' : mt s.2 6 = s.2.2 8 := by simp [mt, lft, hpl4]
          simp only [x182_0, x182_1, x182_3, x182_4, x182_7, x182_8, x182_9, x182_10, x182_11, x182_14, x182_15, x182_16, x182_19, x182_20, x182_21, x182_22, x182_25, x182_26, x182_29, x182_30, x182_33, x182_35, x182_36, x182_37, x182_38, x182_39, x182_40, x182_41, x182_42, x182_45, x182_46, x182_49, x182_51, x182_52, x182_53, x182_56, x182_57, x182_58, x182_61, x182_62, x182_63, x182_64, x182_67, x182_68, x182_71, x182_72, x182_73, x182_74, x182_77, x182_78, x182_79, x182_82, x182_91, x182_94, x182_85, x182_86, x182_87, x182_88, x182_97, gk_some, pk_some, qk_some, bnd_v, bnd_n, kl_int, kl_ref, kl_null, kl_un, Nat.reduceAdd, if_true, if_false, mm_0, mm_12, mm_13, mm_rv, mm_l0, mm_l1, mm_l3, mm_l4, mm_l5, mm_l6, mm_l7, mm_l8, hM.1.1, h0, I_sub1 h1N, hlt, h160, hne, m154, I_1, Ia2, Ia3, Ia4, Ia5, Ia6, Ia7, Ia8, Ia9, Ia10, Ia11, Ia12, Il9, Il16, Il22, Il76, Im9, hr, show 6 < 9 by decide, u6', hw, hM3.1.1, hr2, u6, if_pos e2, h159, show 2 < 9 by decide, u3, e3, h180, r1]
      · have e2' : 0 < s.2.2 8 - 1 := by rw [pos_sub k1]; exact e2
        have e1 : mv1 (I k) q = (q.1, upS q.2 s.1 (s.2.1, up s.2.2 8 (s.2.2 8 - 1))) := by unfold mv1; rw [e]; simp only [e2', if_true]
        rw [e1] at ih'
        simp only [] at ih'
        rw [hpr] at ih'
        obtain ⟨a', c', m', r1, r2, r3, r4, r5⟩ := ih' _ c m (.int (I D.length)) z2 hM3 hC3 hN3 (by omega)
        rw [mvN, e1]
        refine ⟨a', c', m', ?_, r2, r3, r4, by omega⟩
        rw [x182_2]
        have u6 : mt (s.2.1, up s.2.2 8 (s.2.2 8 - 1)) 6 = s.2.2 8 - 1 := by simp [mt, lft, hpl4, up]
        have u6' : mt s.2 6 = s.2.2 8 := by simp [mt, lft, hpl4]
        simp only [x182_0, x182_1, x182_3, x182_4, x182_7, x182_8, x182_9, x182_10, x182_11, x182_14, x182_15, x182_16, x182_19, x182_20, x182_21, x182_22, x182_25, x182_26, x182_29, x182_30, x182_33, x182_35, x182_36, x182_37, x182_38, x182_39, x182_40, x182_41, x182_42, x182_45, x182_46, x182_49, x182_51, x182_52, x182_53, x182_56, x182_57, x182_58, x182_61, x182_62, x182_63, x182_64, x182_67, x182_68, x182_71, x182_72, x182_73, x182_74, x182_77, x182_78, x182_79, x182_82, x182_91, x182_94, x182_85, x182_86, x182_87, x182_88, x182_97, gk_some, pk_some, qk_some, bnd_v, bnd_n, kl_int, kl_ref, kl_null, kl_un, Nat.reduceAdd, if_true, if_false, mm_0, mm_12, mm_13, mm_rv, mm_l0, mm_l1, mm_l3, mm_l4, mm_l5, mm_l6, mm_l7, mm_l8, hM.1.1, h0, I_sub1 h1N, hlt, h160, hne, m154, I_1, Ia2, Ia3, Ia4, Ia5, Ia6, Ia7, Ia8, Ia9, Ia10, Ia11, Ia12, Il9, Il16, Il22, Il76, Im9, hr, show 6 < 9 by decide, u6', hw, hM3.1.1, hr2, u6, e2, r1]
end MMOVE
