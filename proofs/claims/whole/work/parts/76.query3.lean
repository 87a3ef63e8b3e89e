/-! arrivalAlone and isConsistent of the class -/
theorem con_all {X N : Int} {L : LN} (hL : FL X N L) (hX : X + 300 ≤ 31100) : ∀ s, s ∈ L.2.2.2.2 → conK L.1 L.2.1 L.2.2.1 L.2.2.2.2 s := by
  obtain ⟨n, G, nf, wb, pk, hn, ht⟩ := hL
  intro s hs hc S w
  have e := zip_snd (S := S) (S' := L.2.2.2.2) (by rw [w.1, G.1.1])
  have wz := WS_zip w G.1
  have Gz := GI_rec G wz e
  have ep : (prs (zipT S L.2.2.2.2)).map Prod.snd = (prs L.2.2.2.2).map Prod.snd := by rw [prs_snd, prs_snd, e]
  have hsp : s ∈ prs L.2.2.2.2 := by unfold prs; rw [List.mem_filter]; exact ⟨hs, by simp [hc.1]⟩
  obtain ⟨o, ho, e2⟩ := mem_snd ep.symm hsp
  have k := alo_all hX ht Gz ho (by rw [e2]; exact hc.1) (by rw [e2]; exact hc.2)
  rw [e2] at k
  exact ⟨k.1, k.2, puA_WS _ _ _ _ _ (WS_alo wz _) k.1⟩
section QUERY3
variable {h : PH} {p pf : Nat} {L Fc : LN} (r : Nat × Nat × Nat)
theorem q120 {X N : Int} (hL : FL X N L) (hX : X + 300 ≤ 31100) (k : QK h p pf L Fc) {v : Int32} {s : SL} (hf : L.2.2.2.2.find? (fndP v) = some s) : (s.2.1 = 2 ∧ L.1 7 < s.2.2 4 → ∃ F', WS F'.2.2.2.2 ∧ rcal 120 [.ref 32, .int v] (h, r) = some (.inl (some (.int (s.2.2 5))), (putL h pf F', r))) ∧ (¬ (s.2.1 = 2 ∧ L.1 7 < s.2.2 4) → rcal 120 [.ref 32, .int v] (h, r) = some (.inr 2, hsx (h, r))) := by
  have k0 := k
  obtain ⟨⟨x1, x3, x4, x5, x6, x7, x8, e32⟩, ⟨hp, hpf, hdis⟩, ⟨lA, w⟩, ⟨lF, wF⟩, n, hn, h7⟩ := k
  obtain ⟨h1, h2, hm⟩ := find_up w hf
  have g0 := gf_of e32 r 0
  have g2 := gf_of e32 r 2
  have rs := rv_of e32 r
  have rl := rvL_of (L := L) r lA
  have rf := rvL_of (L := Fc) r lF
  have h63 := m63 h L.1 L.2.1 L.2.2.1 L.2.2.2.1 L.2.2.2.2 r (p := p) h1 (by rw [h2]; exact w.2.2.1 s hm)
  rw [show put h p L.1 L.2.1 L.2.2.1 L.2.2.2.1 L.2.2.2.2 = h from lA, h2] at h63
  have hnu : s.2.2 1 = v := by
    have := List.find?_some hf
    simp [fndP] at this; exact this.2
  constructor
  · intro hc
    obtain ⟨c1, c2, c3⟩ := con_all hL hX s hm hc Fc.2.2.2.2 wF
    rw [hnu] at c1 c2 c3
    have h51 : rcal 51 [.ref pf, .ref p, .int v] (h, r) = some (.inl none, (putL h pf (up L.1 5 1, L.2.1, L.2.2.1, L.2.2.2.1, (zipT Fc.2.2.2.2 L.2.2.2.2).map (alo1 v)), r)) := by
      have e := m51 h Fc.1 Fc.2.1 Fc.2.2.1 Fc.2.2.2.1 Fc.2.2.2.2 r (p := pf) (by omega) (q := p) (fq := L.1) (tq := L.2.1) (rq := L.2.2.1) (pq := L.2.2.2.1) (Sq := L.2.2.2.2) lA (by omega) wF w (by omega) v
      rw [show put h pf Fc.1 Fc.2.1 Fc.2.2.1 Fc.2.2.2.1 Fc.2.2.2.2 = h from lF] at e
      exact e
    have wz := WS_alo (WS_zip wF w) v
    have h52 : rcal 52 [.ref pf, .int v] (putL h pf (up L.1 5 1, L.2.1, L.2.2.1, L.2.2.2.1, (zipT Fc.2.2.2.2 L.2.2.2.2).map (alo1 v)), r) = _ := m52 h (up L.1 5 1) L.2.1 L.2.2.1 L.2.2.2.1 ((zipT Fc.2.2.2.2 L.2.2.2.2).map (alo1 v)) r (p := pf) (by omega) wz v c1
    rw [c2] at h52
    have e32' : putL h pf (up L.1 5 1, L.2.1, L.2.2.1, L.2.2.2.1, (zipT Fc.2.2.2.2 L.2.2.2.2).map (alo1 v)) 32 = _ := (putL_out h wz (by omega)).trans e32
    have g2' := gf_of e32' r 2
    have rf' := rvL_of (h := putL h pf (up L.1 5 1, L.2.1, L.2.2.1, L.2.2.2.1, (zipT Fc.2.2.2.2 L.2.2.2.2).map (alo1 v))) (L := (up L.1 5 1, L.2.1, L.2.2.1, L.2.2.2.1, (zipT Fc.2.2.2.2 L.2.2.2.2).map (alo1 v))) r (LAt_put h wz)
    refine ⟨((puA L.2.1 L.2.2.1 v 300 (up L.1 5 1, (zipT Fc.2.2.2.2 L.2.2.2.2).map (alo1 v))).2.1, L.2.1, L.2.2.1, L.2.2.2.1, (puA L.2.1 L.2.2.1 v 300 (up L.1 5 1, (zipT Fc.2.2.2.2 L.2.2.2.2).map (alo1 v))).2.2), c3, ?_⟩
    simp only [c120, x120_0, x120_1, x120_2, x120_5, x120_6, x120_7, x120_10, x120_11, x120_14, x120_17, x120_27, x120_28, x120_31, x120_32, x120_35, x120_36, x120_39, x120_40, x120_43, x120_44, x120_47, gk_some, pk_some, qk_some, bnd_v, bnd_n, kl_int, kl_ref, kl_null, kl_un, Nat.reduceAdd, if_true, if_false, rs, q124 r k0 hf, g0, g2, List.getElem?_cons_zero, List.getElem?_cons_succ, rl, rf, h63, hc, and_self, decide_true, fit1, fit0, fitb, b2i_t, b2i_f, reduceIte, decide_true, decide_false, ne10, h51, g2', rf', h52]
    rfl
  · intro hc
    simp only [c120, x120_0, x120_1, x120_2, x120_5, x120_6, x120_7, x120_10, x120_11, x120_14, x120_17, x120_27, x120_28, x120_31, x120_32, x120_35, x120_36, x120_39, x120_40, x120_43, x120_44, x120_47, gk_some, pk_some, qk_some, bnd_v, bnd_n, kl_int, kl_ref, kl_null, kl_un, Nat.reduceAdd, if_true, if_false, rs, q124 r k0 hf, g0, List.getElem?_cons_zero, List.getElem?_cons_succ, rl, h63, hc, decide_false, fit1, fit0, fitb, b2i_t, b2i_f, reduceIte, decide_true, decide_false, Bool.false_eq_true]
theorem q133 {X N : Int} (hL : FL X N L) (hX : X + 300 ≤ 31100) (k : QK h p pf L Fc) : ∃ F', WS F'.2.2.2.2 ∧ rcal 133 [.ref 32] (h, r) = some (.inl (some (.int 1)), (putL h pf F', r)) := by
  have k0 := k
  obtain ⟨⟨x1, x3, x4, x5, x6, x7, x8, e32⟩, ⟨hp, hpf, hdis⟩, ⟨lA, w⟩, ⟨lF, wF⟩, _, _, _⟩ := k
  obtain ⟨n, G, nf, wb, pk, hn, ht⟩ := id hL
  have g2 := G.2.1
  have g4 := G.2.2.2.1
  have g8 := G.2.2.2.2.2.2.2.1
  have g9 := G.2.2.2.2.2.2.2.2.1
  have hl6 := GI_len G
  simp only [] at g2 g8 g9 hl6
  have lA' : put h p L.1 L.2.1 L.2.2.1 L.2.2.2.1 L.2.2.2.2 = h := lA
  have h65 := m65 h L.1 L.2.1 L.2.2.1 L.2.2.2.1 L.2.2.2.2 r (p := p) w g2.1 g2.2 (fun a ha => by
    have hc := List.countP_le_length (p := occP (I a)) (l := prs L.2.2.2.2)
    have := g9 a ha
    have h4 := g4.2 a (by omega)
    rw [freN_prs, I_nat (by omega), Z_lt, Z_0, Z_sub (by rw [Z_I (by omega)]; omega) (by rw [Z_I (by omega)]; omega), Z_I (by omega)]; omega)
  have h66 := m66 h L.1 L.2.1 L.2.2.1 L.2.2.2.1 L.2.2.2.2 r (p := p) w (by omega) (fun s hs h4 => by
    have hsp : s ∈ prs L.2.2.2.2 := by unfold prs; rw [List.mem_filter]; exact ⟨hs, by simp [h4]⟩
    cases ef : L.2.2.2.2.find? (holP (s.2.2 7)) with
    | none =>
      rw [List.find?_eq_none] at ef
      exact absurd (show holP (s.2.2 7) s = true by simp [holP, h4]) (ef s hs)
    | some o =>
      have ho := List.find?_some ef
      have hom := List.mem_of_find?_eq_some ef
      simp [holP] at ho
      have hop : o ∈ prs L.2.2.2.2 := by unfold prs; rw [List.mem_filter]; exact ⟨hom, by simp [ho.1]⟩
      have := g8 o hop s hsp ho.1 h4 ho.2
      rw [this]; exact ⟨_, rfl⟩)
  have h67 := m67 h L.1 L.2.1 L.2.2.1 L.2.2.2.1 L.2.2.2.2 r (p := p) g2.1 g2.2 (fun a b ha hb => psK_eq g2.2 g4 pk ha hb)
  rw [lA'] at h65 h66 h67
  obtain ⟨f', tk', rt', ps', S', w', h54⟩ := m54 h Fc.1 Fc.2.1 Fc.2.2.1 Fc.2.2.2.1 Fc.2.2.2.2 r (p := pf) (by omega) (q := p) (fq := L.1) (tq := L.2.1) (rq := L.2.2.1) (pq := L.2.2.2.1) (Sq := L.2.2.2.2) lA (by omega) wF w (by omega) (con_all hL hX)
  rw [show put h pf Fc.1 Fc.2.1 Fc.2.2.1 Fc.2.2.2.1 Fc.2.2.2.2 = h from lF] at h54
  refine ⟨(f', tk', rt', ps', S'), w', ?_⟩
  have g0 := gf_of e32 r 0
  have gf2 := gf_of e32 r 2
  have rl := rvL_of (L := L) r lA
  have rf := rvL_of (L := Fc) r lF
  simp only [c133, x133_0, x133_1, x133_4, x133_7, x133_10, x133_11, x133_14, x133_17, x133_20, x133_21, x133_24, x133_27, x133_30, x133_31, x133_34, x133_35, x133_38, x133_41, x133_44, x133_45, x133_49, x133_48, gk_some, pk_some, qk_some, bnd_v, bnd_n, kl_int, kl_ref, kl_null, kl_un, Nat.reduceAdd, if_true, if_false, g0, gf2, List.getElem?_cons_zero, List.getElem?_cons_succ, rl, rf, h65, h66, h67, h54, fit1, fit0, fitb, b2i_t, b2i_f, reduceIte, decide_true, decide_false, ne10]
  rfl
end QUERY3
