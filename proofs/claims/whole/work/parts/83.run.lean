/-! the class runs its program -/
def jR (j : Nat) (o : Option Nat) : Nat := match o with
  | some i => i
  | none => j
theorem cmR_j (j : Nat) (o : Option Nat) : cmR (5 + j) o = 5 + jR j o := by
  cases o <;> rfl
theorem rdL_lt {T : Nat → Int32} {n p0 : Nat} : ∀ (fs : List (List Int32)) (i b : Nat) (s : PS), i + fs.length ≤ 7 → ∀ q, (rdL T n p0 fs i b s).1 = some q → q < 7
  | [], i, b, s, hi, q, e => by unfold rdL at e; cases e
  | F :: fs, i, b, s, hi, q, e => by
    unfold rdL at e
    simp only [List.length_cons] at hi
    split at e
    · have := Option.some.inj e; omega
    · exact rdL_lt fs (i + 1) _ _ (by omega) q e
/-- the next command's reading -/
abbrev RD (T : Nat → Int32) (n : Nat) (s : PS) : Option Nat × PS := rdL T n (nxt T n s).1 forms 0 (nxt T n s).1 (nxt T n s)
theorem jR_lt {T : Nat → Int32} {n j : Nat} (s : PS) (hj : j < 7) : jR j (RD T n s).1 < 7 := by
  cases e : (RD T n s).1 with
  | none => exact hj
  | some i => exact rdL_lt forms 0 _ _ (by decide) i e
theorem RD_ok {T : Nat → Int32} {n : Nat} (h6 : n ≤ 60) {s : PS} (o : psOk s) : psOk (RD T n s).2 := by
  have z := nxt_ok (T := T) (n := n) h6 o
  exact rdL_ok h6 z.1 forms 0 _ _ z.1 z.2
/-- commands carried out, until one is refused: the last answer, how many are left, parser, command, line -/
def rnL (T : Nat → Int32) (n : Nat) : Nat → PS → Nat → Int32 → LN → Int32 × Nat × PS × Nat × LN
  | 0, s, j, v, L => (v, 0, s, j, L)
  | f + 1, s, j, v, L => if v < 0 then (v, f + 1, s, j, L) else
    rnL T n f (RD T n s).2 (jR j (RD T n s).1) (doC (jR j (RD T n s).1) ((RD T n s).2.2.1 0) ((RD T n s).2.2.1 1) ((RD T n s).2.2.1 2) L).1 (doC (jR j (RD T n s).1) ((RD T n s).2.2.1 0) ((RD T n s).2.2.1 1) ((RD T n s).2.2.1 2) L).2
section RUN
variable {Sv Fc : LN} {Hs : Nat → LN} {nx ct : Nat} {sv er fa : Int32} {T : Nat → Int32} {n k : Nat} (r : Nat × Nat × Nat)
theorem q136 (h6 : n ≤ 60) (hk : k ≤ 60) : ∀ (f i j : Nat) (s : PS) (v : Int32) (L : LN) (X N : Int) (h : PH), f + i = k → j < 7 → psOk s → FL X N L → 0 ≤ X → X + 60 * f ≤ 31000 → N + f ≤ 512 → AK h L Sv Fc Hs nx ct sv er fa → PAt h T (5 + j) n k s →
    ∃ h', rn 136 34 [.ref 32, .ref 169, .int (I i), .int v] [] (h, r) = rn 136 86 [.ref 32, .ref 169, .int (I (k - (rnL T n f s j v L).2.1)), .int (rnL T n f s j v L).1] [] (h', r) ∧ AK h' (rnL T n f s j v L).2.2.2.2 Sv Fc Hs nx ct sv er fa ∧ PAt h' T (5 + (rnL T n f s j v L).2.2.2.1) n k (rnL T n f s j v L).2.2.1 ∧ (∀ b, b = 0 ∨ 170 ≤ b → h' b = h b) ∧ FL (X + 60 * f) (N + f) (rnL T n f s j v L).2.2.2.2 ∧ (rnL T n f s j v L).2.2.2.1 < 7 ∧ psOk (rnL T n f s j v L).2.2.1 := by
  intro f
  induction f with
  | zero =>
    intro i j s v L X N h hi hj o hL h0 hX hN a p
    have g4 := gf_of a.1 r 4
    have g3 := gf_of (PAt_in p).1 r 3
    have hn : ¬ I i < I k := fun z => by have := (I_lt (by omega) (by omega)).mp z; omega
    refine ⟨h, ?_, a, p, fun _ _ => rfl, FL_mono hL (by omega) (by omega) (by omega), hj, o⟩
    rw [x136_34, x136_35, x136_36, g4]
    simp only [List.getElem?_cons_zero, List.getElem?_cons_succ, x136_39, gk_some, pk_some, qk_some, bnd_v, bnd_n, kl_int, kl_ref, kl_null, kl_un, Nat.reduceAdd, if_true, if_false, g3, gP_3, x136_42, hn, rnL, Nat.sub_zero]
    rw [show i = k by omega]
  | succ f ih =>
    intro i j s v L X N h hi hj o hL h0 hX hN a p
    have g4 := gf_of a.1 r 4
    have g0 := gf_of a.1 r 0
    have g3 := gf_of (PAt_in p).1 r 3
    have hn : I i < I k := (I_lt (by omega) (by omega)).mpr (by omega)
    by_cases hv : v < 0
    · refine ⟨h, ?_, ?_, ?_, fun _ _ => rfl, ?_, ?_, ?_⟩
      · rw [x136_34, x136_35, x136_36, g4]
        simp only [List.getElem?_cons_zero, List.getElem?_cons_succ, x136_39, gk_some, pk_some, qk_some, bnd_v, bnd_n, kl_int, kl_ref, kl_null, kl_un, Nat.reduceAdd, if_true, if_false, g3, gP_3, x136_42, x136_45, x136_46, hn, hv, rnL]
        rw [show k - (f + 1) = i by omega]
      · unfold rnL; rw [if_pos hv]; exact a
      · unfold rnL; rw [if_pos hv]; exact p
      · unfold rnL; rw [if_pos hv]; exact FL_mono hL (by omega) (by omega) (by omega)
      · unfold rnL; rw [if_pos hv]; exact hj
      · unfold rnL; rw [if_pos hv]; exact o
    · have ck : CK h := a.2.2.2.2.2.2.2.1
      have e74 := q74 h T r (c := 5 + j) (k := k) (s := s) h6 ck o
      rw [show PP h T (5 + j) n k s = h from p, cmR_j] at e74
      have hj2 := jR_lt (T := T) (n := n) s hj
      have o2 := RD_ok (T := T) (n := n) h6 o
      have rv4 := rv_of (PAt_in p).1 r
      have a1 := AK_frame (h' := PP h T (5 + jR j (RD T n s).1) n k (RD T n s).2) a (fun b b1 b2 => PP_o _ _ _ _ _ _ (Or.inl b2))
      have p1 := PAt_PP h T (5 + jR j (RD T n s).1) n k (RD T n s).2
      have ob : ∀ b, b = 0 ∨ 170 ≤ b → PP h T (5 + jR j (RD T n s).1) n k (RD T n s).2 b = h b := fun b hb => PP_o _ _ _ _ _ _ (by omega)
      rw [show rnL T n (f + 1) s j v L = rnL T n f (RD T n s).2 (jR j (RD T n s).1) (doC (jR j (RD T n s).1) ((RD T n s).2.2.1 0) ((RD T n s).2.2.1 1) ((RD T n s).2.2.1 2) L).1 (doC (jR j (RD T n s).1) ((RD T n s).2.2.1 0) ((RD T n s).2.2.1 1) ((RD T n s).2.2.1 2) L).2 by
        rw [rnL, if_neg hv]]
      change rcal 74 [.ref 167] (h, r) = some (.inl none, (PP h T (5 + jR j (RD T n s).1) n k (RD T n s).2, r)) at e74
      generalize PP h T (5 + jR j (RD T n s).1) n k (RD T n s).2 = h1 at *
      generalize jR j (RD T n s).1 = j2 at *
      generalize (RD T n s).2 = s2 at *
      have hL2 := FL_do hL h0 (by omega) (by omega) j2 (s2.2.1 0) (s2.2.1 1) (s2.2.1 2)
      have kc := FL_cm hL (by omega) j2 (s2.2.1 0)
      have w2 : WS (doC j2 (s2.2.1 0) (s2.2.1 1) (s2.2.1 2) L).2.2.2.2.2 := by
        obtain ⟨_, G, _⟩ := hL2
        exact G.1
      have e36 := m36 h1 r (p := 33) a1.2.2.2.2.2.2.2.1 (by decide) L j2 hj2 (s2.2.1 0) (s2.2.1 1) (s2.2.1 2) kc
      rw [show putL h1 33 L = h1 from a1.2.1.1] at e36
      have g4' := gf_of a1.1 r 4
      have g0' := gf_of a1.1 r 0
      have q4 := gf_of (PAt_in p1).1 r 4
      have A0 := ald_i (H := (h1, r)) (PAt_in p1).2.2 (i := 0) (by decide) (by decide) (by decide)
      have A1 := ald_i (H := (h1, r)) (PAt_in p1).2.2 (i := 1) (by decide) (by decide) (by decide)
      have A2 := ald_i (H := (h1, r)) (PAt_in p1).2.2 (i := 2) (by decide) (by decide) (by decide)
      rw [show (0 : Int32).toNatClampNeg = 0 from rfl] at A0
      rw [show (1 : Int32).toNatClampNeg = 1 from rfl] at A1
      rw [show (2 : Int32).toNatClampNeg = 2 from rfl] at A2
      have rvl := rvL_of r a1.2.1.1
      have a2 := AK_line (k := a1) w2
      have p2 : PAt (putL h1 33 (doC j2 (s2.2.1 0) (s2.2.1 1) (s2.2.1 2) L).2) T (5 + j2) n k s2 := PAt_frame p1 (fun b b1 b2 => putL_out h1 w2 (by omega))
      have ob2 : ∀ b, b = 0 ∨ 170 ≤ b → putL h1 33 (doC j2 (s2.2.1 0) (s2.2.1 1) (s2.2.1 2) L).2 b = h b := fun b hb => by rw [putL_out h1 w2 (by omega)]; exact ob b hb
      generalize doC j2 (s2.2.1 0) (s2.2.1 1) (s2.2.1 2) L = d at *
      generalize putL h1 33 d.2 = h2 at *
      obtain ⟨h', e1, e2, e3, e4, e5, e6, e7⟩ := ih (i + 1) j2 s2 d.1 d.2 (X + 60) (N + 1) h2 (by omega) hj2 o2 hL2 (by omega) (by omega) (by omega) a2 p2
      refine ⟨h', ?_, e2, e3, fun b hb => (e4 b hb).trans (ob2 b hb), FL_mono e5 (by omega) (by omega) (by omega), e6, e7⟩
      rw [x136_34, x136_35, x136_36, g4]
      simp only [List.getElem?_cons_zero, List.getElem?_cons_succ, x136_39, gk_some, pk_some, qk_some, bnd_v, bnd_n, kl_int, kl_ref, kl_null, kl_un, Nat.reduceAdd, if_true, if_false, g3, gP_3, x136_42, x136_45, x136_46, hn, hv, x136_49, x136_50, g4, x136_53, rv4, e74, x136_56, x136_57, g0', x136_60, x136_61, g4', x136_64, q4, x136_67, x136_68, x136_69, A0, x136_70, x136_71, x136_72, A1, x136_73, x136_74, x136_75, A2, x136_76, rvl, e36, x136_79, x136_80, x136_83, I_1, e1]
end RUN
