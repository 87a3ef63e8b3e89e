/-! the calls that write, both sides -/
theorem sput_self (h : PH) (i n : Nat) (B : Nat → Int32) (x : Int32) : sput (sput h i n B x) i n B x = sput h i n B x := by
  funext b
  by_cases e1 : b = 170
  · subst e1
    rw [sput_0, sput_0]
  · by_cases e2 : b = bAd i
    · subst e2
      rw [sput_1, sput_1]
    · rw [sput_o _ _ _ _ _ e1 e2]
theorem nar_nar (v : Int32) : vp_nar .char (v.toUInt32 % 65536).toInt32 = (v.toUInt32 % 65536).toInt32 := by
  rw [vp_nar_char]
  have e : (v.toUInt32 % 65536).toUInt16.toUInt32 = v.toUInt32 % 65536 := by
    apply UInt32.toNat_inj.mp
    simp
  exact congrArg UInt32.toInt32 e
section OUT
variable {xs : List Int32} {t i : Nat} {h : PH} {r : Nat × Nat × Nat}
theorem CPr_OS {c s : Nat} {L Sv : LN} {Hs : Nat → LN} {nx ct : Nat} {sv er fa : Int32} {T : Nat → Int32} {n m : Nat} {f0 : Nat → Int32} (C : CPr xs h r c s L Sv Hs nx ct sv er fa T n m f0) {f : Nat → Int32} {cs : List Int32} {H' : HS} (o : OS h f cs c s H') : CPr xs H'.1 H'.2 c s L Sv Hs nx ct sv er fa T n cs.length (wr f 0 cs) ∧ Kp h H'.1 := by
  have e : ∀ b, b < 170 ∨ (172 ≤ b ∧ b < 186) → H'.1 b = h b := fun b hb => OS_at o (by omega) (by omega) (by omega)
  obtain ⟨c0, ⟨Fc, a⟩, ⟨j, kk, q, j7, qo, pa⟩, -⟩ := C
  refine ⟨⟨by rw [e 0 (Or.inl (by decide))]; exact c0, ⟨Fc, AK_frame a (fun b b1 b2 => e b (Or.inl (by omega)))⟩, ⟨j, kk, q, j7, qo, PAt_frame pa (fun b b1 b2 => e b (Or.inl (by omega)))⟩, ?_⟩, fun b b1 b2 => e b (Or.inr ⟨b1, b2⟩)⟩
  obtain ⟨h1, i, B, x, rfl, fg, i3, hl, eq⟩ := o
  exact ⟨i, B, x, sput_self .., i3, hl, rfl, eq⟩
theorem GRm_out {L Sv : LN} {Hs : Nat → LN} {nx ct : Nat} {sv er fa : Int32} {n m : Nat} {g : Nat → Int32} {A : Nat → Nat → Int32} {X N : Int} (G : GRm L Sv Hs nx ct sv er fa n m g A X N) {cs : List Int32} (hl : cs.length ≤ 120) (hc : chs cs) : GRm L Sv Hs nx ct sv er fa n cs.length (up (up g 9 0) 22 (I cs.length)) (ua A 11 (wr (A 11) 0 cs)) X N := by
  obtain ⟨a, b, d, e, k, l, ⟨q1, q2, q3⟩, w⟩ := G
  have eg : ∀ k, k ≠ 9 → k ≠ 22 → up (up g 9 0) 22 (I cs.length) k = g k := fun k k9 k22 => by rw [up_ne _ _ k22, up_ne _ _ k9]
  have eA : ∀ k, k ≠ 11 → ua A 11 (wr (A 11) 0 cs) k = A k := fun k k11 => ua_ne _ _ k11
  refine ⟨by rw [eA 1 (by decide)]; exact a, b, ⟨by rw [eg 11 (by decide) (by decide)]; exact d.1, d.2⟩, ⟨up_eq _ _ _, hl, fun k hk => by rw [ua_eq]; exact wr_all (P := fun v => chO v = true) cs (A 11) 0 hc k (Nat.zero_le _) (by omega)⟩, ⟨by rw [eg 7 (by decide) (by decide)]; exact k.1, by rw [eg 8 (by decide) (by decide)]; exact k.2⟩, by rw [eg 6 (by decide) (by decide)]; exact l, ⟨by rw [eg 4 (by decide) (by decide)]; exact q1, q2, fun z => by rw [eA 4 (by decide)]; exact q3 z⟩, fun q hq => by rw [eA 5 (by decide)]; exact w q hq⟩
theorem nb_of {L : LN} {X N : Int} (hL : FL X N L) : ∀ t, t ∈ L.2.2.2.2 → t.2.1 ≠ 1 → nbK t := by
  intro u hu h1
  obtain ⟨n, G, -⟩ := hL
  have hp : u ∈ prs L.2.2.2.2 := by unfold prs; rw [List.mem_filter]; exact ⟨hu, by simp [h1]⟩
  obtain ⟨w, g2, g3, g4, g5, g6, g7, g8, g9, g10⟩ := G
  obtain ⟨a1, a2, a3, a4, a5, a6, a7, a8, a9, a10⟩ := g6 u hp
  have b := g10.2.2.1
  simp only [] at b a7
  have z := Z_of (x := u.2.2 1) (by omega)
  have z2 := Z_nat (x := u.2.2 1) (by omega)
  exact ⟨_, z, by omega⟩
theorem nm_of {x : Int32} (h0 : 0 ≤ Z x) (h1 : Z x < 1000000000) : nmK x := by
  have z := Z_of h0
  have z2 := Z_nat h0
  exact ⟨_, z, by omega⟩
theorem tK_of {L : LN} {X N : Int} (hL : FL X N L) {v : Int32} {s : SL} (hf : L.2.2.2.2.find? (fndP v) = some s) : tK s.2 := by
  obtain ⟨p1, p2, p3, p4, p5⟩ := present hL hf
  obtain ⟨n, G, nf, wb, -⟩ := hL
  obtain ⟨w, g2, g3, g4, g5, g6, g7, g8, g9, g10⟩ := G
  obtain ⟨a1, a2, a3, a4, a5, a6, a7, a8, a9, a10⟩ := g6 s p1
  obtain ⟨b1, b2⟩ := wb s p1
  have b := g10.2.2.1
  simp only [] at b a7 g5 a5 g2
  exact ⟨nm_of (by omega) (by omega), nm_of (by omega) (by omega), nm_of (by omega) (by omega), nm_of (by omega) (by omega), nm_of (by omega) (by omega), p5⟩
theorem st41 (R : GR xs t (h, r)) (ht : t ≤ 511) (l6 l7 l8 : Value) : STP xs t i 2267 l6 l7 l8 (h, r) := by
  obtain ⟨c, s, L, Sv, Hs, nx, ct, sv, er, fa, n, m, g, A, C, M0, O0, G, hn, hc, hs⟩ := R
  have hM := G.1
  have hL := G.2.1
  obtain ⟨n0, hn0, h70⟩ := Nn hL
  have w0 := AK_WK C.2.1.choose_spec hn0 h70
  have m120 := G.2.2.2.1.2.1
  obtain ⟨-, -, -, i0, B, x, sb, i3, mc, er', eq⟩ := id C
  have hN := nb_of hL
  have w6 : L.2.2.2.2.length = 6 := w0.2.2.1.2.1
  have hcn := cnF_le L.2.2.2.2 n0 0 (by omega)
  obtain ⟨H', e1, o⟩ := q140 (B := B) (x := x) (c := c) (s := s) (n := m) w0 hN hn0 h70 i3 (by omega) (A 11)
  rw [sb, ← er'] at e1
  obtain ⟨C1, kp⟩ := CPr_OS C o
  obtain ⟨M2, O2, fi⟩ := fin_e C1 kp M0 O0
  have em := m238 H'.1 g A H'.2 (p := 172) (by decide) hM.2.1 hN (n := n0) (hM.1.1.trans hn0) h70 (by omega)
  rw [M2] at em
  have rv1 := rvM H'.1 172 g A H'.2
  rw [M2] at rv1
  have hlen := moW_len hN n0 n0 0
  obtain ⟨C3, O3⟩ := fi (up (up g 9 0) 22 (I (moW L n0 n0 0).length)) (ua A 11 (wr (A 11) 0 (moW L n0 n0 0)))
  obtain ⟨x, y, z, ez⟩ := z41 (i := i) (CPr_rv C r) e1 rv1 em l6 l7 l8
  refine ⟨x, y, z, _, ez, c, s, L, Sv, Hs, nx, ct, sv, er, fa, n, _, _, _, ?_, MP_self _ _ _, O3, GRm_out (GRm_up G (by push_cast; omega) (by push_cast; omega) (by push_cast; omega)) (by omega) (chs_mo L n0 n0 0), by omega, by omega, by omega⟩
  rw [ua_eq, ua_ne _ _ (by decide)]
  exact C3
theorem q141n {h : PH} {L Fc : LN} {p pf : Nat} (r : Nat × Nat × Nat) (k : QK h p pf L Fc) {v : Int32} (hf : L.2.2.2.2.find? (fndP v) = none) (rs : recv (h, r) 32 0 = true) : rcal 141 [.ref 32, .int v] (h, r) = some (.inr 3, hsx (h, r)) := by
  simp only [c141, x141_0, x141_1, x141_2, x141_5, x141_6, x141_7, x141_10, x141_11, x141_14, x141_15, x141_18, x141_19, x141_22, x141_25, x141_27, x141_30, x141_31, x141_34, x141_37, x141_38, x141_39, x141_42, x141_44, x141_47, x141_48, x141_51, x141_54, x141_55, x141_56, x141_59, x141_61, x141_64, x141_65, x141_68, x141_71, x141_72, x141_73, x141_76, x141_79, x141_80, x141_83, x141_85, x141_88, x141_89, x141_90, x141_93, x141_96, x141_97, x141_100, x141_102, x141_105, x141_106, x141_109, x141_112, x141_113, x141_114, x141_117, x141_120, gk_some, pk_some, qk_some, bnd_v, bnd_n, kl_int, kl_ref, kl_null, kl_un, Nat.reduceAdd, if_true, if_false, rs, q124n r k hf, bnd_x 141 _ _ _ _ _ rfl]
theorem st42 (R : GR xs t (h, r)) (ht : t ≤ 511) (hl : xs.length ≤ 2048) {a0 : Int32} (s1 : xs[i + 1]? = some a0) (l6 l7 l8 : Value) : STP xs t i 2280 l6 l7 l8 (h, r) := by
  obtain ⟨c, s, L, Sv, Hs, nx, ct, sv, er, fa, n, m, g, A, C, M0, O0, G, hn, hc, hs⟩ := R
  have hM := G.1
  have hL := G.2.1
  obtain ⟨n0, hn0, h70⟩ := Nn hL
  have w0 := AK_WK C.2.1.choose_spec hn0 h70
  have K : QK h 33 55 L C.2.1.choose := AK_QK C.2.1.choose_spec hn0 h70
  have m120 := G.2.2.2.1.2.1
  have u1 := sc_rd C hl s1 r
  cases hf : L.2.2.2.2.find? (fndP a0) with
  | none =>
    have M2 := (fin_e C (Kp_rf h) M0 O0).1
    have ew := w277_1 (CPr_rv C r) a0 (q141n r K hf (CPr_rv C r))
    have em := m239n h g A (hsx (h, r)).2 (p := 172) (by decide) hM.2.1 (v := a0) (by rw [fnd_num]; exact hf)
    rw [M2] at em
    have rv1 := rvM h 172 g A (hsx (h, r)).2
    rw [M2] at rv1
    have et := m149 h (up g 9 1) A (hsx (h, r)).2 (p := 172)
    rw [up_eq] at et
    have rv2 := rvM h 172 (up g 9 1) A (hsx (h, r)).2
    have t1 := sc_rd C hl s1 (hsx (h, r)).2
    obtain ⟨x, y, z, ez⟩ := z42 (i := i) u1 t1 ew em et rv1 rv2 (fun q => absurd q (by decide)) l6 l7 l8
    exact ⟨x, y, z, _, ez, qe C M0 O0 G hn hc hs ht C (Kp_rf h) (fun k k9 _ => up_ne _ _ k9) (fun _ _ => rfl) (fun _ _ _ _ => rfl)⟩
  | some q =>
    obtain ⟨k1, k2, k3, k4⟩ := find_has w0.2.2.1.2.2.1 hf
    have e124 := q124 r K hf
    obtain ⟨-, -, -, i0, B, x, sb, i3, mc, er', eq⟩ := id C
    have e124' : rcal 124 [.ref 32, .int a0] (sput h i0 m B x, rS c s i0) = some (.inl (some (.ref (33 + 5 + q.1))), (sput h i0 m B x, rS c s i0)) := by rw [sb, ← er']; exact e124
    have hk := tK_of hL hf
    obtain ⟨H', e1, o⟩ := q141 w0 k1 k2 hk i3 (by omega) (A 11) e124'
    rw [sb, ← er'] at e1
    obtain ⟨C1, kp⟩ := CPr_OS C o
    obtain ⟨C2, M2, ⟨oo, ho⟩, fi⟩ := fin_v C1 kp M0 O0 (I (tW q.2).length : Int32).toInt64
    have ew := w277 (CPr_rv C r) a0 e1 ho
    have em := m239 (pu H'.1 184 (103, [.long (I (tW q.2).length : Int32).toInt64])) g A H'.2 (p := 172) (by decide) hM.2.1 (v := a0) (t := q) (by rw [fnd_num]; exact hf) hk
    rw [M2] at em
    have rv1 := rvM (pu H'.1 184 (103, [.long (I (tW q.2).length : Int32).toInt64])) 172 g A H'.2
    rw [M2] at rv1
    have et := m149 (pu H'.1 184 (103, [.long (I (tW q.2).length : Int32).toInt64])) (up (up g 9 0) 22 (I (tW q.2).length)) (ua A 11 (wr (A 11) 0 (tW q.2))) H'.2 (p := 172)
    rw [show up (up g 9 0) 22 (I (tW q.2).length) 9 = 0 by rw [up_ne _ _ (by decide), up_eq]] at et
    have rv2 := rvM (pu H'.1 184 (103, [.long (I (tW q.2).length : Int32).toInt64])) 172 (up (up g 9 0) 22 (I (tW q.2).length)) (ua A 11 (wr (A 11) 0 (tW q.2))) H'.2
    have t1 := sc_rd C2 hl s1 H'.2
    obtain ⟨C3, O3, o3⟩ := fi (up (up g 9 0) 22 (I (tW q.2).length)) (ua A 11 (wr (A 11) 0 (tW q.2)))
    obtain ⟨x, y, z, ez⟩ := z42 (i := i) u1 t1 ew em et rv1 rv2 (fun _ => o3) l6 l7 l8
    have hlen := tW_len q.2
    refine ⟨x, y, z, _, ez, c, s, L, Sv, Hs, nx, ct, sv, er, fa, n, _, _, _, ?_, MP_self _ _ _, O3, GRm_out (GRm_up G (by push_cast; omega) (by push_cast; omega) (by push_cast; omega)) (by omega) (chs_tW q.2), by omega, by omega, by omega⟩
    rw [ua_eq, ua_ne _ _ (by decide)]
    exact C3
theorem st43 (R : GR xs t (h, r)) (ht : t ≤ 511) (hl : xs.length ≤ 2048) {a0 : Int32} (s1 : xs[i + 1]? = some a0) (l6 l7 l8 : Value) : STP xs t i 2336 l6 l7 l8 (h, r) := by
  obtain ⟨c, s, L, Sv, Hs, nx, ct, sv, er, fa, n, m, g, A, C, M0, O0, G, hn, hc, hs⟩ := R
  have hL := G.2.1
  obtain ⟨n0, hn0, h70⟩ := Nn hL
  have w0 := AK_WK C.2.1.choose_spec hn0 h70
  obtain ⟨g22, m120, hch⟩ := G.2.2.2.1
  have u1 := sc_rd C hl s1 r
  obtain ⟨-, -, -, i0, B, x, sb, i3, mc, er', eq⟩ := id C
  by_cases hv : ¬ a0 < 0 ∧ a0 < I m
  · have hk := nat_lt hv.1 hv.2 (by omega)
    have ek := I_of hv.1
    generalize a0.toNatClampNeg = k at hk ek
    subst ek
    have e1 := q142 (i := i0) (B := B) (x := x) (c := c) (s := s) w0 i3 mc hk (by rw [eq k hk]; exact hch k hk)
    rw [sb, ← er', eq k hk] at e1
    obtain ⟨C2, M2, ⟨oo, ho⟩, fi⟩ := fin_v C (Kp_rf h) M0 O0 (A 11 k).toInt64
    have ew := w278 (CPr_rv C r) (I k) e1 ho
    have em := m240 (pu h 184 (103, [.long (A 11 k).toInt64])) g A r (p := 172) (by decide) m120 g22 hk (hch k hk)
    rw [M2] at em
    have rv1 := rvM (pu h 184 (103, [.long (A 11 k).toInt64])) 172 g A r
    rw [M2] at rv1
    have et := m149 (pu h 184 (103, [.long (A 11 k).toInt64])) (up g 9 0) A r (p := 172)
    rw [up_eq] at et
    have rv2 := rvM (pu h 184 (103, [.long (A 11 k).toInt64])) 172 (up g 9 0) A r
    have t1 := sc_rd C2 hl s1 r
    obtain ⟨x, y, z, ez⟩ := z43 (i := i) u1 t1 ew em et rv1 rv2 (fun _ => (fi _ _).2.2) l6 l7 l8
    exact ⟨x, y, z, _, ez, qv C M0 O0 G hn hc hs ht C (Kp_rf h) _ (fun k k9 _ => up_ne _ _ k9) (fun _ _ => rfl) (fun _ _ _ _ => rfl)⟩
  · have e1 := q142n (i := i0) (B := B) (x := x) (c := c) (s := s) w0 (by omega) hv
    rw [sb, ← er'] at e1
    have M2 := (fin_e C (Kp_rf h) M0 O0).1
    have ew := w278_1 (CPr_rv C r) a0 e1
    have em := m240n h g A (hsx (h, r)).2 (p := 172) (by decide) m120 g22 hv
    rw [M2] at em
    have rv1 := rvM h 172 g A (hsx (h, r)).2
    rw [M2] at rv1
    have et := m149 h (up g 9 1) A (hsx (h, r)).2 (p := 172)
    rw [up_eq] at et
    have rv2 := rvM h 172 (up g 9 1) A (hsx (h, r)).2
    have t1 := sc_rd C hl s1 (hsx (h, r)).2
    obtain ⟨x, y, z, ez⟩ := z43 (i := i) u1 t1 ew em et rv1 rv2 (fun q => absurd q (by decide)) l6 l7 l8
    exact ⟨x, y, z, _, ez, qe C M0 O0 G hn hc hs ht C (Kp_rf h) (fun k k9 _ => up_ne _ _ k9) (fun _ _ => rfl) (fun _ _ _ _ => rfl)⟩
end OUT
