/-! lines with the same trains in other places -/
theorem srt_iff (P : List SL) : SRT P ↔ (P.map fun s => s.2.2 1).Pairwise (· < ·) := by
  constructor
  · intro h
    rw [List.pairwise_map]
    induction P with
    | nil => exact List.Pairwise.nil
    | cons a P ih =>
      refine List.Pairwise.cons (fun b hb => (h [] a P rfl).2 b hb) (ih fun D s R e => ?_)
      have := h (a :: D) s R (by rw [e]; rfl)
      exact ⟨fun o ho => this.1 o (List.mem_cons_of_mem _ ho), this.2⟩
  · intro h D s R e
    rw [e, List.map_append, List.map_cons, List.pairwise_append] at h
    refine ⟨fun o ho => h.2.2 _ (List.mem_map_of_mem (f := fun s : SL => s.2.2 1) ho) _ List.mem_cons_self, fun o ho => ?_⟩
    exact (List.pairwise_cons.mp h.2.1).1 _ (List.mem_map_of_mem (f := fun s : SL => s.2.2 1) ho)
theorem prs_snd (S : List SL) : (prs S).map Prod.snd = (S.map Prod.snd).filter fun t => decide (t.1 ≠ 1) := by
  unfold prs; rw [List.filter_map]; rfl
theorem cnt_snd (P : List SL) (v : Int32) : P.countP (occP v) = (P.map Prod.snd).countP fun t => occP v (0, t) := by
  rw [List.countP_map]; rfl
theorem mem_snd {P P' : List SL} (e : P'.map Prod.snd = P.map Prod.snd) {s : SL} (h : s ∈ P') : ∃ o, o ∈ P ∧ o.2 = s.2 := by
  have : s.2 ∈ P.map Prod.snd := e ▸ List.mem_map_of_mem h
  simpa using List.mem_map.mp this
theorem GI_rec {n : Nat} {X l : Int} {tk rt f : Nat → Int32} {S S' : List SL} (G : GI n X l tk rt (f, S)) (w' : WS S') (e : S'.map Prod.snd = S.map Prod.snd) : GI n X l tk rt (f, S') := by
  obtain ⟨w, g2, g3, g4, g5, g6, g7, g8, g9, g10⟩ := G
  simp only [] at *
  have ep : (prs S').map Prod.snd = (prs S).map Prod.snd := by rw [prs_snd, prs_snd, e]
  have el : (prs S').length = (prs S).length := by simpa using congrArg List.length ep
  have eh : SRT (prs S') := by
    rw [srt_iff] at g7 ⊢
    have : ∀ P : List SL, (P.map fun s => s.2.2 1) = (P.map Prod.snd).map fun t => t.2 1 := fun P => by rw [List.map_map]; rfl
    rw [this] at g7 ⊢
    rw [ep]; exact g7
  refine ⟨w', g2, by simp only [el]; exact g3, g4, g5, fun s hs => ?_, eh, fun s hs o ho h4 o4 e7 => ?_, fun k hk => ?_, by simp only [el]; exact g10⟩
  · obtain ⟨o, ho, e2⟩ := mem_snd ep hs
    rw [← e2]; exact g6 o ho
  · obtain ⟨a, ha, e1⟩ := mem_snd ep hs
    obtain ⟨b, hb, e2⟩ := mem_snd ep ho
    have := g8 a ha b hb (by rw [e1]; exact h4) (by rw [e2]; exact o4) (by rw [e1, e2]; exact e7)
    refine srt_eq eh hs ho ?_
    rw [← e1, ← e2, this]
  · simp only []
    rw [cnt_snd, ep, ← cnt_snd]; exact g9 k hk
theorem TRel_rec {a : Nat → Int32} {P P' : List SL} (h : TRel a P) (e : P'.map Prod.snd = P.map Prod.snd) : TRel a P' := by
  have el : P'.length = P.length := by simpa using congrArg List.length e
  refine TR_of (by rw [el]; exact h.1) (by rw [el]; exact h.2.1) fun k s hk c hc => ?_
  have h1 : (P'.map Prod.snd)[k]? = some s.2 := by rw [List.getElem?_map, hk]; rfl
  rw [e, List.getElem?_map] at h1
  cases hp : P[k]? with
  | none => rw [hp] at h1; cases h1
  | some o =>
    rw [hp] at h1
    have : o.2 = s.2 := by simpa using h1
    rw [← this]; exact TR_ix h hp hc
theorem MR_rec {a f tk rt : Nat → Int32} {P P' : List SL} (h : MR a f tk rt P) (e : P'.map Prod.snd = P.map Prod.snd) : MR a f tk rt P' := by
  have el : P'.length = P.length := by simpa using congrArg List.length e
  exact ⟨h.1, TRel_rec h.2.1 e, by rw [el]; exact h.2.2⟩
theorem NF_rec {S S' : List SL} (nf : NF S) (e : S'.map Prod.snd = S.map Prod.snd) : NF S' := by
  obtain ⟨Q, hS, hQ⟩ := nf
  have e2 : S'.map Prod.snd = (prs S).map Prod.snd ++ Q.map Prod.snd := by rw [e]; rw [hS]; simp [prs_app, prs_idem, prs_abs hQ]
  obtain ⟨A, B, h1, h2, h3⟩ := List.map_eq_append_iff.mp e2
  have hB : ∀ s, s ∈ B → s.2.1 = 1 := fun s hs => by
    obtain ⟨o, ho, e3⟩ := mem_snd h3 hs
    rw [← e3]; exact hQ o ho
  have hA : prs A = A := by
    unfold prs
    rw [List.filter_eq_self]
    intro s hs
    obtain ⟨o, ho, e3⟩ := mem_snd h2 hs
    have := (prs_mem ho).2
    rw [e3] at this; simpa using this
  refine ⟨B, ?_, hB⟩
  rw [h1, prs_app, hA, prs_abs hB, List.append_nil]
theorem WB_rec {W : Int} {P P' : List SL} (h : WB W P) (e : P'.map Prod.snd = P.map Prod.snd) : WB W P' := fun s hs => by
  obtain ⟨o, ho, e2⟩ := mem_snd e hs
  rw [← e2]; exact h o ho
theorem FL_cp {X N : Int} {D L : LN} (wD : WS D.2.2.2.2) (h : FL X N L) : FL X N (cpL D L) := by
  obtain ⟨n, G, nf, wb, pk, hn⟩ := h
  have e := zip_snd (S := D.2.2.2.2) (S' := L.2.2.2.2) (by rw [wD.1, G.1.1])
  have ep : (prs (zipT D.2.2.2.2 L.2.2.2.2)).map Prod.snd = (prs L.2.2.2.2).map Prod.snd := by rw [prs_snd, prs_snd, e]
  exact ⟨n, GI_rec G (WS_zip wD G.1) e, NF_rec nf e, WB_rec wb ep, pk, hn⟩
theorem MRL_cp {a : Nat → Int32} {D L : LN} (wD : WS D.2.2.2.2) (wL : WS L.2.2.2.2) (h : MRL a L) : MRL a (cpL D L) := by
  have e := zip_snd (S := D.2.2.2.2) (S' := L.2.2.2.2) (by rw [wD.1, wL.1])
  exact MR_rec h (by show (prs (zipT D.2.2.2.2 L.2.2.2.2)).map Prod.snd = _; rw [prs_snd, prs_snd, e])
section FOREC
variable {h : PH} {p pf : Nat} {L Fc : LN} (r : Nat × Nat × Nat)
theorem puA_WS (tk rt : Nat → Int32) (v : Int32) : ∀ (c : Nat) (q : LQ), WS q.2 → minKN tk rt c q → WS (puA tk rt v c q).2.2
  | 0, _, w, _ => w
  | c + 1, q, w, k => by
    obtain ⟨n, _, _, _, _, _, _, w2⟩ := k.1
    unfold puA
    split
    · exact w2
    · exact puA_WS tk rt v c _ w2 k.2
theorem puS_WS (tk rt : Nat → Int32) : ∀ (c : Nat) (q : LQ), WS q.2 → minKN tk rt c q → WS (puS tk rt c q).2
  | 0, _, w, _ => w
  | c + 1, q, w, k => by
    obtain ⟨n, _, _, _, _, _, _, w2⟩ := k.1
    unfold puS
    split
    · exact puS_WS tk rt c _ w2 k.2
    · exact w
theorem q121 (k : QK h p pf L Fc) {v : Int32} {s : SL} (hf : L.2.2.2.2.find? (fndP v) = some s) (km : minKN L.2.1 L.2.2.1 300 (L.1, zipT Fc.2.2.2.2 L.2.2.2.2)) : ∃ F', WS F'.2.2.2.2 ∧ rcal 121 [.ref 32, .int v] (h, r) = (if (puA L.2.1 L.2.2.1 v 300 (L.1, zipT Fc.2.2.2.2 L.2.2.2.2)).1 = -1 then some (.inr 3, hsx (putL h pf F', r)) else some (.inl (some (.int (puA L.2.1 L.2.2.1 v 300 (L.1, zipT Fc.2.2.2.2 L.2.2.2.2)).1)), (putL h pf F', r))) := by
  have k0 := k
  obtain ⟨⟨x1, x3, x4, x5, x6, x7, x8, e32⟩, ⟨hp, hpf, hdis⟩, ⟨lA, w⟩, ⟨lF, wF⟩, n, hn, h7⟩ := k
  have g0 := gf_of e32 r 0
  have g2 := gf_of e32 r 2
  have rs := rv_of e32 r
  have rf := rvL_of (L := Fc) r lF
  have wz := WS_zip wF w
  have h35 := cp_line r (by omega) (by omega) lF wF lA w (by omega)
  have o32 : ∀ F' : LN, WS F'.2.2.2.2 → putL h pf F' 32 = h 32 := fun F' w' => putL_out h w' (by omega)
  have e32' : putL h pf (cpL Fc L) 32 = _ := (o32 _ wz).trans e32
  have g2' := gf_of e32' r 2
  have rf' := rvL_of (h := putL h pf (cpL Fc L)) (L := cpL Fc L) r (LAt_put h wz)
  have h52 := m52 h L.1 L.2.1 L.2.2.1 L.2.2.2.1 (zipT Fc.2.2.2.2 L.2.2.2.2) r (p := pf) (by omega) wz v km
  refine ⟨((puA L.2.1 L.2.2.1 v 300 (L.1, zipT Fc.2.2.2.2 L.2.2.2.2)).2.1, L.2.1, L.2.2.1, L.2.2.2.1, (puA L.2.1 L.2.2.1 v 300 (L.1, zipT Fc.2.2.2.2 L.2.2.2.2)).2.2), puA_WS _ _ _ _ _ wz km, ?_⟩
  have h52' : rcal 52 [.ref pf, .int v] (putL h pf (cpL Fc L), r) = _ := h52
  simp only [c121, x121_0, x121_1, x121_2, x121_5, x121_6, x121_7, x121_10, x121_11, x121_14, x121_17, x121_18, x121_21, x121_22, x121_25, x121_26, x121_27, x121_28, x121_31, x121_41, x121_42, gk_some, pk_some, qk_some, bnd_v, bnd_n, kl_int, kl_ref, kl_null, kl_un, Nat.reduceAdd, if_true, if_false, rs, q124 r k0 hf, g0, g2, List.getElem?_cons_zero, List.getElem?_cons_succ, rf, h35, g2', rf', h52']
  rfl
theorem q122 (k : QK h p pf L Fc) (km : minKN L.2.1 L.2.2.1 300 (L.1, zipT Fc.2.2.2.2 L.2.2.2.2)) : ∃ F', WS F'.2.2.2.2 ∧ rcal 122 [.ref 32] (h, r) = some (.inl (some (.int ((puS L.2.1 L.2.2.1 300 (L.1, zipT Fc.2.2.2.2 L.2.2.2.2)).1 5))), (putL h pf F', r)) := by
  have k0 := k
  obtain ⟨⟨x1, x3, x4, x5, x6, x7, x8, e32⟩, ⟨hp, hpf, hdis⟩, ⟨lA, w⟩, ⟨lF, wF⟩, n, hn, h7⟩ := k
  have g0 := gf_of e32 r 0
  have g2 := gf_of e32 r 2
  have rs := rv_of e32 r
  have rf := rvL_of (L := Fc) r lF
  have wz := WS_zip wF w
  have h35 := cp_line r (by omega) (by omega) lF wF lA w (by omega)
  have o32 : ∀ F' : LN, WS F'.2.2.2.2 → putL h pf F' 32 = h 32 := fun F' w' => putL_out h w' (by omega)
  have e32' : putL h pf (cpL Fc L) 32 = _ := (o32 _ wz).trans e32
  have g2' := gf_of e32' r 2
  have rf' := rvL_of (h := putL h pf (cpL Fc L)) (L := cpL Fc L) r (LAt_put h wz)
  have h53 : rcal 53 [.ref pf] (putL h pf (cpL Fc L), r) = _ := m53 h L.1 L.2.1 L.2.2.1 L.2.2.2.1 (zipT Fc.2.2.2.2 L.2.2.2.2) r (p := pf) (by omega) wz km
  refine ⟨((puS L.2.1 L.2.2.1 300 (L.1, zipT Fc.2.2.2.2 L.2.2.2.2)).1, L.2.1, L.2.2.1, L.2.2.2.1, (puS L.2.1 L.2.2.1 300 (L.1, zipT Fc.2.2.2.2 L.2.2.2.2)).2), puS_WS _ _ _ _ wz km, ?_⟩
  simp only [c122, x122_0, x122_1, x122_4, x122_5, x122_8, x122_11, x122_12, x122_15, x122_18, gk_some, pk_some, qk_some, bnd_v, bnd_n, kl_int, kl_ref, kl_null, kl_un, Nat.reduceAdd, if_true, if_false, rs, g0, g2, List.getElem?_cons_zero, List.getElem?_cons_succ, rf, h35, g2', rf', h53]
  rfl
end FOREC
