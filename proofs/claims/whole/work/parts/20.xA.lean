/-! a step as one rewriting: the methods 0 to 89 -/
theorem x0_0 (l1 : Value) (l0 : Nat) (H : HS) : rn 0 0 [.ref l0, l1] [] H = rn 0 1 [.ref l0, l1] [.ref l0] H := rn_nx rfl
theorem x0_1 (l0 l1 : Value) (s0 : Nat) (H : HS) : rn 0 1 [l0, l1] [.ref s0] H = rn 0 4 [l0, l1] [] H := rn_nx rfl
theorem x0_4 (l0 l1 : Value) (H : HS) : rn 0 4 [l0, l1] [] H = rn 0 7 [l0, l1] [.int 1] H := rn_nx rfl
theorem x0_7 (l0 l1 : Value) (s0 : Int32) (H : HS) : rn 0 7 [l0, l1] [.int s0] H = if s0 = 0 then rn 0 25 [l0, l1] [] H else rn 0 10 [l0, l1] [] H := (rn_ev ..).trans (ev_bif rfl)
theorem x0_10 (l1 : Value) (l0 : Nat) (H : HS) : rn 0 10 [.ref l0, l1] [] H = rn 0 11 [.ref l0, l1] [.ref l0] H := rn_nx rfl
theorem x0_11 (l0 : Value) (l1 : Int32) (s0 : Nat) (H : HS) : rn 0 11 [l0, .int l1] [.ref s0] H = rn 0 12 [l0, .int l1] [.int l1, .ref s0] H := rn_nx rfl
theorem x0_12 (l0 l1 : Value) (s0 : Int32) (s1 : Nat) (H : HS) : rn 0 12 [l0, l1] [.int s0, .ref s1] H = if s0 < 0 ∨ 100000 < s0.toNatClampNeg then none else rn 0 14 [l0, l1] [.ref H.2.1, .ref s1] (hsn H (102, List.replicate s0.toNatClampNeg (.int 0)) s0.toNatClampNeg) := (rn_ev ..).trans (ev_if rfl)
theorem x0_14 (l0 l1 : Value) (s0 : Nat) (s1 : Nat) (H : HS) : rn 0 14 [l0, l1] [.ref s0, .ref s1] H = pk 0 17 [l0, l1] [] (pfd H true 6 0 s1 (.ref s0)) := (rn_ev ..).trans (ev_pk rfl)
theorem x0_17 (l1 : Value) (l0 : Nat) (H : HS) : rn 0 17 [.ref l0, l1] [] H = rn 0 18 [.ref l0, l1] [.ref l0] H := rn_nx rfl
theorem x0_18 (l0 l1 : Value) (s0 : Nat) (H : HS) : rn 0 18 [l0, l1] [.ref s0] H = rn 0 19 [l0, l1] [.int 0, .ref s0] H := rn_nx rfl
theorem x0_19 (l0 l1 : Value) (s0 : Int32) (s1 : Nat) (H : HS) : rn 0 19 [l0, l1] [.int s0, .ref s1] H = pk 0 22 [l0, l1] [] (pfd H true 6 1 s1 (.int s0)) := (rn_ev ..).trans (ev_pk rfl)
theorem x0_22 (l0 l1 : Value) (H : HS) : rn 0 22 [l0, l1] [] H = rn 0 38 [l0, l1] [] H := rn_nx rfl
theorem x0_38 (l0 l1 : Value) (H : HS) : rn 0 38 [l0, l1] [] H = some (.inl none, H) := rn_end rfl
theorem x0_25 (l1 : Value) (l0 : Nat) (H : HS) : rn 0 25 [.ref l0, l1] [] H = rn 0 26 [.ref l0, l1] [.ref l0] H := rn_nx rfl
theorem x0_26 (l0 : Value) (l1 : Int32) (s0 : Nat) (H : HS) : rn 0 26 [l0, .int l1] [.ref s0] H = rn 0 27 [l0, .int l1] [.int l1, .ref s0] H := rn_nx rfl
theorem c0 (a0 : Nat) (a1 : Int32) (H : HS) : rcal 0 [.ref a0, .int a1] H = rn 0 0 [.ref a0, .int a1] [] H := rfl
theorem x1_0 (l1 l2 : Value) (l0 : Nat) (H : HS) : rn 1 0 [.ref l0, l1, l2] [] H = rn 1 1 [.ref l0, l1, l2] [.ref l0] H := rn_nx rfl
theorem x1_1 (l0 l1 l2 : Value) (s0 : Nat) (H : HS) : rn 1 1 [l0, l1, l2] [.ref s0] H = gk 1 4 [l0, l1, l2] [] H (gfd H 6 0 s0) := (rn_ev ..).trans (ev_gk rfl)
theorem x1_4 (l0 l1 l2 : Value) (s0 : Nat) (H : HS) : rn 1 4 [l0, l1, l2] [.ref s0] H = gk 1 5 [l0, l1, l2] [] H (alen H s0) := (rn_ev ..).trans (ev_gk rfl)
theorem x1_5 (l1 l2 : Value) (l0 : Nat) (s0 : Int32) (H : HS) : rn 1 5 [.ref l0, l1, l2] [.int s0] H = rn 1 6 [.ref l0, l1, l2] [.ref l0, .int s0] H := rn_nx rfl
theorem x1_6 (l0 l1 l2 : Value) (s0 : Nat) (s1 : Int32) (H : HS) : rn 1 6 [l0, l1, l2] [.ref s0, .int s1] H = gk 1 9 [l0, l1, l2] [.int s1] H (gfd H 6 1 s0) := (rn_ev ..).trans (ev_gk rfl)
theorem x1_9 (l0 l1 l2 : Value) (s0 : Int32) (s1 : Int32) (H : HS) : rn 1 9 [l0, l1, l2] [.int s0, .int s1] H = rn 1 10 [l0, l1, l2] [.int (s1 >>> (s0 &&& 31))] H := rn_nx rfl
theorem x1_10 (l0 l1 l2 : Value) (s0 : Int32) (H : HS) : rn 1 10 [l0, l1, l2] [.int s0] H = rn 1 11 [l0, (kl l1), .int s0] [] H := rn_nx rfl
theorem x1_11 (l0 l2 : Value) (l1 : Int32) (H : HS) : rn 1 11 [l0, .int l1, l2] [] H = rn 1 12 [l0, .int l1, l2] [.int l1] H := rn_nx rfl
theorem x1_12 (l0 l1 : Value) (l2 : Int32) (s0 : Int32) (H : HS) : rn 1 12 [l0, l1, .int l2] [.int s0] H = rn 1 13 [l0, l1, .int l2] [.int l2, .int s0] H := rn_nx rfl
theorem x1_13 (l0 l1 l2 : Value) (s0 : Int32) (s1 : Int32) (H : HS) : rn 1 13 [l0, l1, l2] [.int s0, .int s1] H = rn 1 14 [l0, l1, l2] [.int (s1 - s0)] H := rn_nx rfl
theorem x1_14 (l0 l1 l2 : Value) (s0 : Int32) (H : HS) : rn 1 14 [l0, l1, l2] [.int s0] H = if 0 < s0 then rn 1 17 [l0, l1, l2] [] H else rn 1 38 [l0, l1, l2] [] H := (rn_ev ..).trans (ev_bin rfl)
theorem x1_17 (l1 l2 : Value) (l0 : Nat) (H : HS) : rn 1 17 [.ref l0, l1, l2] [] H = rn 1 18 [.ref l0, l1, l2] [.ref l0] H := rn_nx rfl
theorem x1_18 (l1 l2 : Value) (l0 : Nat) (s0 : Nat) (H : HS) : rn 1 18 [.ref l0, l1, l2] [.ref s0] H = rn 1 19 [.ref l0, l1, l2] [.ref l0, .ref s0] H := rn_nx rfl
theorem x1_19 (l0 l1 l2 : Value) (s0 : Nat) (s1 : Nat) (H : HS) : rn 1 19 [l0, l1, l2] [.ref s0, .ref s1] H = gk 1 22 [l0, l1, l2] [.ref s1] H (gfd H 6 0 s0) := (rn_ev ..).trans (ev_gk rfl)
theorem x1_22 (l1 l2 : Value) (l0 : Nat) (s0 : Nat) (s1 : Nat) (H : HS) : rn 1 22 [.ref l0, l1, l2] [.ref s0, .ref s1] H = rn 1 23 [.ref l0, l1, l2] [.ref l0, .ref s0, .ref s1] H := rn_nx rfl
theorem x1_23 (l0 l2 : Value) (l1 : Int32) (s0 : Nat) (s1 : Nat) (s2 : Nat) (H : HS) : rn 1 23 [l0, .int l1, l2] [.ref s0, .ref s1, .ref s2] H = rn 1 24 [l0, .int l1, l2] [.int l1, .ref s0, .ref s1, .ref s2] H := rn_nx rfl
theorem x1_24 (l0 l1 l2 : Value) (s0 : Int32) (s1 : Nat) (s2 : Nat) (s3 : Nat) (H : HS) (h : recv H s1 6 = true) : rn 1 24 [l0, l1, l2] [.int s0, .ref s1, .ref s2, .ref s3] H = bnd true 1 24 [l0, l1, l2] [.ref s2, .ref s3] (rcal 2 [.ref s1, .int s0] H) := rn_cal (vcal h rfl)
theorem x1_27 (l1 l2 : Value) (l0 : Nat) (s0 : Int32) (s1 : Nat) (s2 : Nat) (H : HS) : rn 1 27 [.ref l0, l1, l2] [.int s0, .ref s1, .ref s2] H = rn 1 28 [.ref l0, l1, l2] [.ref l0, .int s0, .ref s1, .ref s2] H := rn_nx rfl
theorem x1_28 (l0 l1 l2 : Value) (s0 : Nat) (s1 : Int32) (s2 : Nat) (s3 : Nat) (H : HS) : rn 1 28 [l0, l1, l2] [.ref s0, .int s1, .ref s2, .ref s3] H = gk 1 31 [l0, l1, l2] [.int s1, .ref s2, .ref s3] H (gfd H 6 1 s0) := (rn_ev ..).trans (ev_gk rfl)
theorem x1_31 (l0 l1 l2 : Value) (s0 : Int32) (s1 : Int32) (s2 : Nat) (s3 : Nat) (H : HS) : rn 1 31 [l0, l1, l2] [.int s0, .int s1, .ref s2, .ref s3] H = rn 1 32 [l0, l1, l2] [.int (s1 <<< (s0 &&& 31)), .ref s2, .ref s3] H := rn_nx rfl
theorem x1_32 (l0 l1 l2 : Value) (s0 : Int32) (s1 : Nat) (s2 : Nat) (H : HS) : rn 1 32 [l0, l1, l2] [.int s0, .ref s1, .ref s2] H = bnd true 1 32 [l0, l1, l2] [.ref s2] (rcal 26 [.ref s1, .int s0] H) := rn_cal rfl
theorem x1_35 (l0 l1 l2 : Value) (s0 : Nat) (s1 : Nat) (H : HS) : rn 1 35 [l0, l1, l2] [.ref s0, .ref s1] H = pk 1 38 [l0, l1, l2] [] (pfd H true 6 0 s1 (.ref s0)) := (rn_ev ..).trans (ev_pk rfl)
theorem x1_38 (l0 l1 l2 : Value) (H : HS) : rn 1 38 [l0, l1, l2] [] H = some (.inl none, H) := rn_end rfl
theorem c1 (a0 : Nat) (a1 : Int32) (H : HS) : rcal 1 [.ref a0, .int a1] H = rn 1 0 [.ref a0, .int a1, un] [] H := rfl
theorem x2_0 (l1 l2 l3 l4 l5 : Value) (l0 : Nat) (H : HS) : rn 2 0 [.ref l0, l1, l2, l3, l4, l5] [] H = rn 2 1 [.ref l0, l1, l2, l3, l4, l5] [.ref l0] H := rn_nx rfl
theorem x2_1 (l0 l1 l2 l3 l4 l5 : Value) (s0 : Nat) (H : HS) : rn 2 1 [l0, l1, l2, l3, l4, l5] [.ref s0] H = gk 2 4 [l0, l1, l2, l3, l4, l5] [] H (gfd H 6 0 s0) := (rn_ev ..).trans (ev_gk rfl)
theorem x2_4 (l0 l1 l2 l3 l4 l5 : Value) (s0 : Nat) (H : HS) : rn 2 4 [l0, l1, l2, l3, l4, l5] [.ref s0] H = gk 2 5 [l0, l1, l2, l3, l4, l5] [] H (alen H s0) := (rn_ev ..).trans (ev_gk rfl)
theorem x2_5 (l0 l1 l2 l3 l4 l5 : Value) (s0 : Int32) (H : HS) : rn 2 5 [l0, l1, l2, l3, l4, l5] [.int s0] H = rn 2 6 [l0, (kl l1), .int s0, l3, l4, l5] [] H := rn_nx rfl
theorem x2_6 (l0 l2 l3 l4 l5 : Value) (l1 : Int32) (H : HS) : rn 2 6 [l0, .int l1, l2, l3, l4, l5] [] H = rn 2 7 [l0, .int l1, l2, l3, l4, l5] [.int l1] H := rn_nx rfl
theorem x2_7 (l1 l2 l3 l4 l5 : Value) (l0 : Nat) (s0 : Int32) (H : HS) : rn 2 7 [.ref l0, l1, l2, l3, l4, l5] [.int s0] H = rn 2 8 [.ref l0, l1, l2, l3, l4, l5] [.ref l0, .int s0] H := rn_nx rfl
theorem x2_8 (l0 l1 l2 l3 l4 l5 : Value) (s0 : Nat) (s1 : Int32) (H : HS) : rn 2 8 [l0, l1, l2, l3, l4, l5] [.ref s0, .int s1] H = gk 2 11 [l0, l1, l2, l3, l4, l5] [.int s1] H (gfd H 6 1 s0) := (rn_ev ..).trans (ev_gk rfl)
theorem x2_11 (l0 l1 l2 l3 l4 l5 : Value) (s0 : Int32) (s1 : Int32) (H : HS) : rn 2 11 [l0, l1, l2, l3, l4, l5] [.int s0, .int s1] H = rn 2 12 [l0, l1, l2, l3, l4, l5] [.int (s1 <<< (s0 &&& 31))] H := rn_nx rfl
theorem x2_12 (l0 l1 l2 l3 l4 l5 : Value) (s0 : Int32) (H : HS) : rn 2 12 [l0, l1, l2, l3, l4, l5] [.int s0] H = rn 2 13 [l0, l1, (kl l2), .int s0, l4, l5] [] H := rn_nx rfl
theorem x2_13 (l0 l1 l2 l4 l5 : Value) (l3 : Int32) (H : HS) : rn 2 13 [l0, l1, l2, .int l3, l4, l5] [] H = rn 2 14 [l0, l1, l2, .int l3, l4, l5] [.int l3] H := rn_nx rfl
theorem x2_14 (l0 l1 l3 l4 l5 : Value) (l2 : Int32) (s0 : Int32) (H : HS) : rn 2 14 [l0, l1, .int l2, l3, l4, l5] [.int s0] H = rn 2 15 [l0, l1, .int l2, l3, l4, l5] [.int l2, .int s0] H := rn_nx rfl
theorem x2_15 (l0 l1 l2 l3 l4 l5 : Value) (s0 : Int32) (s1 : Int32) (H : HS) : rn 2 15 [l0, l1, l2, l3, l4, l5] [.int s0, .int s1] H = rn 2 16 [l0, l1, l2, l3, l4, l5] [.int (s1 - s0)] H := rn_nx rfl
theorem x2_16 (l0 l1 l2 l3 l4 l5 : Value) (s0 : Int32) (H : HS) : rn 2 16 [l0, l1, l2, l3, l4, l5] [.int s0] H = rn 2 18 [l0, l1, l2, (kl l3), .int s0, l5] [] H := rn_nx rfl
theorem x2_18 (l0 l1 l3 l4 l5 : Value) (l2 : Int32) (H : HS) : rn 2 18 [l0, l1, .int l2, l3, l4, l5] [] H = rn 2 19 [l0, l1, .int l2, l3, l4, l5] [.int l2] H := rn_nx rfl
theorem x2_19 (l0 l1 l2 l3 l5 : Value) (l4 : Int32) (s0 : Int32) (H : HS) : rn 2 19 [l0, l1, l2, l3, .int l4, l5] [.int s0] H = rn 2 21 [l0, l1, l2, l3, .int l4, l5] [.int l4, .int s0] H := rn_nx rfl
theorem x2_21 (l0 l1 l3 l4 l5 : Value) (l2 : Int32) (s0 : Int32) (s1 : Int32) (H : HS) : rn 2 21 [l0, l1, .int l2, l3, l4, l5] [.int s0, .int s1] H = rn 2 22 [l0, l1, .int l2, l3, l4, l5] [.int l2, .int s0, .int s1] H := rn_nx rfl
theorem x2_22 (l0 l1 l2 l3 l4 l5 : Value) (s0 : Int32) (s1 : Int32) (s2 : Int32) (H : HS) : rn 2 22 [l0, l1, l2, l3, l4, l5] [.int s0, .int s1, .int s2] H = rn 2 23 [l0, l1, l2, l3, l4, l5] [.int 2, .int s0, .int s1, .int s2] H := rn_nx rfl
theorem x2_23 (l1 l2 l3 l4 l5 : Value) (l0 : Nat) (s0 : Int32) (s1 : Int32) (s2 : Int32) (s3 : Int32) (H : HS) : rn 2 23 [.ref l0, l1, l2, l3, l4, l5] [.int s0, .int s1, .int s2, .int s3] H = rn 2 24 [.ref l0, l1, l2, l3, l4, l5] [.ref l0, .int s0, .int s1, .int s2, .int s3] H := rn_nx rfl
theorem x2_24 (l0 l1 l2 l3 l4 l5 : Value) (s0 : Nat) (s1 : Int32) (s2 : Int32) (s3 : Int32) (s4 : Int32) (H : HS) : rn 2 24 [l0, l1, l2, l3, l4, l5] [.ref s0, .int s1, .int s2, .int s3, .int s4] H = gk 2 27 [l0, l1, l2, l3, l4, l5] [.int s1, .int s2, .int s3, .int s4] H (gfd H 6 1 s0) := (rn_ev ..).trans (ev_gk rfl)
theorem x2_27 (l0 l1 l2 l3 l4 l5 : Value) (s0 : Int32) (s1 : Int32) (s2 : Int32) (s3 : Int32) (s4 : Int32) (H : HS) : rn 2 27 [l0, l1, l2, l3, l4, l5] [.int s0, .int s1, .int s2, .int s3, .int s4] H = rn 2 28 [l0, l1, l2, l3, l4, l5] [.int (s1 <<< (s0 &&& 31)), .int s2, .int s3, .int s4] H := rn_nx rfl
theorem x2_28 (l0 l1 l2 l3 l4 l5 : Value) (s0 : Int32) (s1 : Int32) (s2 : Int32) (s3 : Int32) (H : HS) : rn 2 28 [l0, l1, l2, l3, l4, l5] [.int s0, .int s1, .int s2, .int s3] H = rn 2 29 [l0, l1, l2, l3, l4, l5] [.int (s1 + s0), .int s2, .int s3] H := rn_nx rfl
theorem x2_29 (l0 l1 l2 l3 l4 l5 : Value) (s0 : Int32) (s1 : Int32) (s2 : Int32) (H : HS) : rn 2 29 [l0, l1, l2, l3, l4, l5] [.int s0, .int s1, .int s2] H = bnd true 2 29 [l0, l1, l2, l3, l4, l5] [] (rcal 28 [.int s2, .int s1, .int s0] H) := rn_cal rfl
theorem x2_32 (l0 l1 l2 l3 l4 l5 : Value) (s0 : Int32) (H : HS) : rn 2 32 [l0, l1, l2, l3, l4, l5] [.int s0] H = rn 2 34 [l0, l1, l2, l3, (kl l4), .int s0] [] H := rn_nx rfl
theorem x2_34 (l0 l1 l2 l3 l4 : Value) (l5 : Int32) (H : HS) : rn 2 34 [l0, l1, l2, l3, l4, .int l5] [] H = rn 2 36 [l0, l1, l2, l3, l4, .int l5] [.int l5] H := rn_nx rfl
theorem x2_36 (l0 l1 l2 l3 l4 l5 : Value) (s0 : Int32) (H : HS) : rn 2 36 [l0, l1, l2, l3, l4, l5] [.int s0] H = rn 2 38 [l0, l1, l2, l3, l4, l5] [.int 2147483647, .int s0] H := rn_nx rfl
theorem x2_38 (l0 l1 l2 l3 l4 l5 : Value) (s0 : Int32) (s1 : Int32) (H : HS) : rn 2 38 [l0, l1, l2, l3, l4, l5] [.int s0, .int s1] H = if s1 = s0 then rn 2 41 [l0, l1, l2, l3, l4, l5] [] H else rn 2 51 [l0, l1, l2, l3, l4, l5] [] H := (rn_ev ..).trans (ev_bin rfl)
theorem x2_51 (l0 l1 l2 l3 l4 : Value) (l5 : Int32) (H : HS) : rn 2 51 [l0, l1, l2, l3, l4, .int l5] [] H = rn 2 53 [l0, l1, l2, l3, l4, .int l5] [.int l5] H := rn_nx rfl
theorem x2_53 (l1 l2 l3 l4 l5 : Value) (l0 : Nat) (s0 : Int32) (H : HS) : rn 2 53 [.ref l0, l1, l2, l3, l4, l5] [.int s0] H = rn 2 54 [.ref l0, l1, l2, l3, l4, l5] [.ref l0, .int s0] H := rn_nx rfl
theorem x2_54 (l0 l1 l2 l3 l4 l5 : Value) (s0 : Nat) (s1 : Int32) (H : HS) : rn 2 54 [l0, l1, l2, l3, l4, l5] [.ref s0, .int s1] H = gk 2 57 [l0, l1, l2, l3, l4, l5] [.int s1] H (gfd H 6 1 s0) := (rn_ev ..).trans (ev_gk rfl)
theorem x2_57 (l0 l1 l2 l3 l4 l5 : Value) (s0 : Int32) (s1 : Int32) (H : HS) : rn 2 57 [l0, l1, l2, l3, l4, l5] [.int s0, .int s1] H = rn 2 58 [l0, l1, l2, l3, l4, l5] [.int (s1 >>> (s0 &&& 31))] H := rn_nx rfl
theorem x2_58 (l0 l1 l2 l3 l4 l5 : Value) (s0 : Int32) (H : HS) : rn 2 58 [l0, l1, l2, l3, l4, l5] [.int s0] H = some (.inl (some (.int s0)), H) := rn_end rfl
theorem c2 (a0 : Nat) (a1 : Int32) (H : HS) : rcal 2 [.ref a0, .int a1] H = rn 2 0 [.ref a0, .int a1, un, un, un, un] [] H := rfl
theorem x3_0 (l0 : Value) (l1 : Int32) (H : HS) : rn 3 0 [l0, .int l1] [] H = rn 3 1 [l0, .int l1] [.int l1] H := rn_nx rfl
theorem x3_1 (l0 l1 : Value) (s0 : Int32) (H : HS) : rn 3 1 [l0, l1] [.int s0] H = if s0 < 0 then rn 3 4 [l0, l1] [] H else rn 3 13 [l0, l1] [] H := (rn_ev ..).trans (ev_bin rfl)
theorem x3_13 (l1 : Value) (l0 : Nat) (H : HS) : rn 3 13 [.ref l0, l1] [] H = rn 3 14 [.ref l0, l1] [.ref l0] H := rn_nx rfl
theorem x3_14 (l0 : Value) (l1 : Int32) (s0 : Nat) (H : HS) : rn 3 14 [l0, .int l1] [.ref s0] H = rn 3 15 [l0, .int l1] [.int l1, .ref s0] H := rn_nx rfl
theorem x3_15 (l0 l1 : Value) (s0 : Int32) (s1 : Nat) (H : HS) (h : recv H s1 6 = true) : rn 3 15 [l0, l1] [.int s0, .ref s1] H = bnd true 3 15 [l0, l1] [] (rcal 1 [.ref s1, .int s0] H) := rn_cal (vcal h rfl)
theorem x3_18 (l1 : Value) (l0 : Nat) (H : HS) : rn 3 18 [.ref l0, l1] [] H = rn 3 19 [.ref l0, l1] [.ref l0] H := rn_nx rfl
theorem x3_19 (l0 l1 : Value) (s0 : Nat) (H : HS) : rn 3 19 [l0, l1] [.ref s0] H = gk 3 22 [l0, l1] [] H (gfd H 6 3 s0) := (rn_ev ..).trans (ev_gk rfl)
theorem x3_22 (l0 : Value) (l1 : Int32) (s0 : Int32) (H : HS) : rn 3 22 [l0, .int l1] [.int s0] H = rn 3 23 [l0, .int l1] [.int l1, .int s0] H := rn_nx rfl
theorem x3_23 (l0 l1 : Value) (s0 : Int32) (s1 : Int32) (H : HS) : rn 3 23 [l0, l1] [.int s0, .int s1] H = if s1 < s0 then rn 3 26 [l0, l1] [] H else rn 3 63 [l0, l1] [] H := (rn_ev ..).trans (ev_bin rfl)
theorem x3_26 (l1 : Value) (l0 : Nat) (H : HS) : rn 3 26 [.ref l0, l1] [] H = rn 3 27 [.ref l0, l1] [.ref l0] H := rn_nx rfl
theorem x3_27 (l0 l1 : Value) (s0 : Nat) (H : HS) (h : recv H s0 6 = true) : rn 3 27 [l0, l1] [.ref s0] H = bnd true 3 27 [l0, l1] [] (rcal 7 [.ref s0] H) := rn_cal (vcal h rfl)
theorem x3_30 (l0 l1 : Value) (s0 : Int32) (H : HS) : rn 3 30 [l0, l1] [.int s0] H = if s0 = 0 then rn 3 48 [l0, l1] [] H else rn 3 33 [l0, l1] [] H := (rn_ev ..).trans (ev_bif rfl)
theorem x3_33 (l1 : Value) (l0 : Nat) (H : HS) : rn 3 33 [.ref l0, l1] [] H = rn 3 34 [.ref l0, l1] [.ref l0] H := rn_nx rfl
theorem x3_34 (l0 l1 : Value) (s0 : Nat) (H : HS) : rn 3 34 [l0, l1] [.ref s0] H = gk 3 37 [l0, l1] [] H (gfd H 6 0 s0) := (rn_ev ..).trans (ev_gk rfl)
theorem x3_37 (l1 : Value) (l0 : Nat) (s0 : Nat) (H : HS) : rn 3 37 [.ref l0, l1] [.ref s0] H = rn 3 38 [.ref l0, l1] [.ref l0, .ref s0] H := rn_nx rfl
theorem x3_38 (l0 l1 : Value) (s0 : Nat) (s1 : Nat) (H : HS) : rn 3 38 [l0, l1] [.ref s0, .ref s1] H = gk 3 41 [l0, l1] [.ref s1] H (gfd H 6 3 s0) := (rn_ev ..).trans (ev_gk rfl)
theorem x3_41 (l0 : Value) (l1 : Int32) (s0 : Int32) (s1 : Nat) (H : HS) : rn 3 41 [l0, .int l1] [.int s0, .ref s1] H = rn 3 42 [l0, .int l1] [.int l1, .int s0, .ref s1] H := rn_nx rfl
theorem x3_48 (l1 : Value) (l0 : Nat) (H : HS) : rn 3 48 [.ref l0, l1] [] H = rn 3 49 [.ref l0, l1] [.ref l0] H := rn_nx rfl
theorem x3_49 (l0 l1 : Value) (s0 : Nat) (H : HS) : rn 3 49 [l0, l1] [.ref s0] H = gk 3 52 [l0, l1] [] H (gfd H 6 0 s0) := (rn_ev ..).trans (ev_gk rfl)
theorem x3_52 (l1 : Value) (l0 : Nat) (s0 : Nat) (H : HS) : rn 3 52 [.ref l0, l1] [.ref s0] H = rn 3 53 [.ref l0, l1] [.ref l0, .ref s0] H := rn_nx rfl
theorem x3_53 (l0 l1 : Value) (s0 : Nat) (s1 : Nat) (H : HS) : rn 3 53 [l0, l1] [.ref s0, .ref s1] H = gk 3 56 [l0, l1] [.ref s1] H (gfd H 6 3 s0) := (rn_ev ..).trans (ev_gk rfl)
theorem x3_56 (l0 : Value) (l1 : Int32) (s0 : Int32) (s1 : Nat) (H : HS) : rn 3 56 [l0, .int l1] [.int s0, .ref s1] H = rn 3 57 [l0, .int l1] [.int l1, .int s0, .ref s1] H := rn_nx rfl
theorem x3_63 (l1 : Value) (l0 : Nat) (H : HS) : rn 3 63 [.ref l0, l1] [] H = rn 3 64 [.ref l0, l1] [.ref l0] H := rn_nx rfl
theorem x3_64 (l0 l1 : Value) (s0 : Nat) (H : HS) : rn 3 64 [l0, l1] [.ref s0] H = gk 3 67 [l0, l1] [] H (gfd H 6 3 s0) := (rn_ev ..).trans (ev_gk rfl)
theorem x3_67 (l0 : Value) (l1 : Int32) (s0 : Int32) (H : HS) : rn 3 67 [l0, .int l1] [.int s0] H = rn 3 68 [l0, .int l1] [.int l1, .int s0] H := rn_nx rfl
theorem x3_68 (l0 l1 : Value) (s0 : Int32) (s1 : Int32) (H : HS) : rn 3 68 [l0, l1] [.int s0, .int s1] H = if s0 < s1 then rn 3 71 [l0, l1] [] H else rn 3 76 [l0, l1] [] H := (rn_ev ..).trans (ev_bin rfl)
theorem x3_71 (l1 : Value) (l0 : Nat) (H : HS) : rn 3 71 [.ref l0, l1] [] H = rn 3 72 [.ref l0, l1] [.ref l0] H := rn_nx rfl
theorem x3_72 (l0 l1 : Value) (s0 : Nat) (H : HS) : rn 3 72 [l0, l1] [.ref s0] H = rn 3 73 [l0, l1] [.int 1, .ref s0] H := rn_nx rfl
theorem x3_73 (l0 l1 : Value) (s0 : Int32) (s1 : Nat) (H : HS) : rn 3 73 [l0, l1] [.int s0, .ref s1] H = pk 3 76 [l0, l1] [] (pfd H true 6 2 s1 (.int s0)) := (rn_ev ..).trans (ev_pk rfl)
theorem x3_76 (l1 : Value) (l0 : Nat) (H : HS) : rn 3 76 [.ref l0, l1] [] H = rn 3 77 [.ref l0, l1] [.ref l0] H := rn_nx rfl
theorem x3_77 (l0 : Value) (l1 : Int32) (s0 : Nat) (H : HS) : rn 3 77 [l0, .int l1] [.ref s0] H = rn 3 78 [l0, .int l1] [.int l1, .ref s0] H := rn_nx rfl
theorem x3_78 (l0 l1 : Value) (s0 : Int32) (s1 : Nat) (H : HS) : rn 3 78 [l0, l1] [.int s0, .ref s1] H = pk 3 81 [l0, l1] [] (pfd H true 6 3 s1 (.int s0)) := (rn_ev ..).trans (ev_pk rfl)
theorem x3_81 (l0 l1 : Value) (H : HS) : rn 3 81 [l0, l1] [] H = some (.inl none, H) := rn_end rfl
theorem c3 (a0 : Nat) (a1 : Int32) (H : HS) : rcal 3 [.ref a0, .int a1] H = rn 3 0 [.ref a0, .int a1] [] H := rfl
theorem x4_0 (l1 l2 l3 l4 : Value) (l0 : Nat) (H : HS) : rn 4 0 [.ref l0, l1, l2, l3, l4] [] H = rn 4 1 [.ref l0, l1, l2, l3, l4] [.ref l0] H := rn_nx rfl
theorem x4_1 (l0 l1 l2 l3 l4 : Value) (s0 : Nat) (H : HS) : rn 4 1 [l0, l1, l2, l3, l4] [.ref s0] H = gk 4 4 [l0, l1, l2, l3, l4] [] H (gfd H 6 1 s0) := (rn_ev ..).trans (ev_gk rfl)
theorem x4_4 (l0 l1 l2 l3 l4 : Value) (s0 : Int32) (H : HS) : rn 4 4 [l0, l1, l2, l3, l4] [.int s0] H = rn 4 5 [l0, (kl l1), .int s0, l3, l4] [] H := rn_nx rfl
theorem x4_5 (l1 l2 l3 l4 : Value) (l0 : Nat) (H : HS) : rn 4 5 [.ref l0, l1, l2, l3, l4] [] H = rn 4 6 [.ref l0, l1, l2, l3, l4] [.ref l0] H := rn_nx rfl
theorem x4_6 (l0 l1 l2 l3 l4 : Value) (s0 : Nat) (H : HS) : rn 4 6 [l0, l1, l2, l3, l4] [.ref s0] H = gk 4 9 [l0, l1, l2, l3, l4] [] H (gfd H 6 0 s0) := (rn_ev ..).trans (ev_gk rfl)
theorem x4_9 (l0 l1 l2 l3 l4 : Value) (s0 : Nat) (H : HS) : rn 4 9 [l0, l1, l2, l3, l4] [.ref s0] H = rn 4 10 [l0, l1, (kl l2), .ref s0, l4] [] H := rn_nx rfl
theorem x4_10 (l1 l2 l3 l4 : Value) (l0 : Nat) (H : HS) : rn 4 10 [.ref l0, l1, l2, l3, l4] [] H = rn 4 11 [.ref l0, l1, l2, l3, l4] [.ref l0] H := rn_nx rfl
theorem x4_11 (l0 l1 l2 l3 l4 : Value) (s0 : Nat) (H : HS) : rn 4 11 [l0, l1, l2, l3, l4] [.ref s0] H = gk 4 14 [l0, l1, l2, l3, l4] [] H (gfd H 6 3 s0) := (rn_ev ..).trans (ev_gk rfl)
theorem x4_14 (l0 l1 l2 l4 : Value) (l3 : Nat) (s0 : Int32) (H : HS) : rn 4 14 [l0, l1, l2, .ref l3, l4] [.int s0] H = rn 4 15 [l0, l1, l2, .ref l3, l4] [.ref l3, .int s0] H := rn_nx rfl
theorem x4_15 (l0 l1 l2 l3 l4 : Value) (s0 : Nat) (s1 : Int32) (H : HS) : rn 4 15 [l0, l1, l2, l3, l4] [.ref s0, .int s1] H = gk 4 16 [l0, l1, l2, l3, l4] [.int s1] H (alen H s0) := (rn_ev ..).trans (ev_gk rfl)
theorem x4_16 (l0 l1 l3 l4 : Value) (l2 : Int32) (s0 : Int32) (s1 : Int32) (H : HS) : rn 4 16 [l0, l1, .int l2, l3, l4] [.int s0, .int s1] H = rn 4 17 [l0, l1, .int l2, l3, l4] [.int l2, .int s0, .int s1] H := rn_nx rfl
theorem x4_17 (l0 l1 l2 l3 l4 : Value) (s0 : Int32) (s1 : Int32) (s2 : Int32) (H : HS) : rn 4 17 [l0, l1, l2, l3, l4] [.int s0, .int s1, .int s2] H = rn 4 18 [l0, l1, l2, l3, l4] [.int (s1 >>> (s0 &&& 31)), .int s2] H := rn_nx rfl
theorem x4_18 (l0 l1 l2 l3 l4 : Value) (s0 : Int32) (s1 : Int32) (H : HS) : rn 4 18 [l0, l1, l2, l3, l4] [.int s0, .int s1] H = rn 4 21 [l0, l1, l2, l3, l4] [.int (if s0 < s1 then s0 else s1)] H := rn_nx rfl
theorem x4_21 (l0 l1 l2 l3 l4 : Value) (s0 : Int32) (H : HS) : rn 4 21 [l0, l1, l2, l3, l4] [.int s0] H = rn 4 23 [l0, l1, l2, (kl l3), .int s0] [] H := rn_nx rfl
theorem x4_23 (l0 l2 l3 l4 : Value) (l1 : Int32) (H : HS) : rn 4 23 [l0, .int l1, l2, l3, l4] [] H = rn 4 24 [l0, .int l1, l2, l3, l4] [.int l1] H := rn_nx rfl
theorem x4_24 (l0 l1 l2 l3 : Value) (l4 : Int32) (s0 : Int32) (H : HS) : rn 4 24 [l0, l1, l2, l3, .int l4] [.int s0] H = rn 4 26 [l0, l1, l2, l3, .int l4] [.int l4, .int s0] H := rn_nx rfl
theorem x4_26 (l0 l1 l2 l3 l4 : Value) (s0 : Int32) (s1 : Int32) (H : HS) : rn 4 26 [l0, l1, l2, l3, l4] [.int s0, .int s1] H = bnd true 4 26 [l0, l1, l2, l3, l4] [] (rcal 17 [.int s1, .int s0] H) := rn_cal rfl
theorem x4_29 (l0 l1 l3 l4 : Value) (l2 : Int32) (H : HS) : rn 4 29 [l0, l1, .int l2, l3, l4] [] H = rn 4 30 [l0, l1, .int l2, l3, l4] [.int l2] H := rn_nx rfl
theorem x4_30 (l0 l1 l2 l3 l4 : Value) (s0 : Int32) (H : HS) : rn 4 30 [l0, l1, l2, l3, l4] [.int s0] H = if s0 = 0 then rn 4 33 [l0, l1, l2, l3, l4] [] H else rn 4 42 [l0, l1, l2, l3, l4] [] H := (rn_ev ..).trans (ev_bin rfl)
theorem x4_33 (l0 l1 l2 l4 : Value) (l3 : Nat) (H : HS) : rn 4 33 [l0, l1, l2, .ref l3, l4] [] H = rn 4 34 [l0, l1, l2, .ref l3, l4] [.ref l3] H := rn_nx rfl
theorem x4_34 (l0 l2 l3 l4 : Value) (l1 : Int32) (s0 : Nat) (H : HS) : rn 4 34 [l0, .int l1, l2, l3, l4] [.ref s0] H = rn 4 35 [l0, .int l1, l2, l3, l4] [.int l1, .ref s0] H := rn_nx rfl
theorem x4_35 (l0 l1 l2 l3 l4 : Value) (s0 : Int32) (s1 : Nat) (H : HS) : rn 4 35 [l0, l1, l2, l3, l4] [.int s0, .ref s1] H = gk 4 36 [l0, l1, l2, l3, l4] [] H (ald H 102 s1 s0) := (rn_ev ..).trans (ev_gk rfl)
theorem x4_36 (l0 l1 l2 l3 l4 : Value) (s0 : Int32) (H : HS) : rn 4 36 [l0, l1, l2, l3, l4] [.int s0] H = rn 4 39 [l0, l1, l2, l3, l4] [.int 255, .int s0] H := rn_nx rfl
theorem x4_39 (l0 l1 l2 l3 l4 : Value) (s0 : Int32) (s1 : Int32) (H : HS) : rn 4 39 [l0, l1, l2, l3, l4] [.int s0, .int s1] H = rn 4 40 [l0, l1, l2, l3, l4] [.int (s1 &&& s0)] H := rn_nx rfl
theorem x4_40 (l0 l1 l2 l3 l4 : Value) (s0 : Int32) (H : HS) : rn 4 40 [l0, l1, l2, l3, l4] [.int s0] H = rn 4 41 [l0, l1, l2, l3, l4] [.int (s0.toUInt32 % 65536).toInt32] H := rn_nx rfl
theorem x4_41 (l0 l1 l2 l3 l4 : Value) (s0 : Int32) (H : HS) : rn 4 41 [l0, l1, l2, l3, l4] [.int s0] H = if fitp 3 (.int s0) = true then some (.inl (some (.int s0)), H) else none := (rn_ev ..).trans (ev_ret rfl)
theorem x4_42 (l0 l1 l2 l4 : Value) (l3 : Nat) (H : HS) : rn 4 42 [l0, l1, l2, .ref l3, l4] [] H = rn 4 43 [l0, l1, l2, .ref l3, l4] [.ref l3] H := rn_nx rfl
theorem x4_43 (l0 l2 l3 l4 : Value) (l1 : Int32) (s0 : Nat) (H : HS) : rn 4 43 [l0, .int l1, l2, l3, l4] [.ref s0] H = rn 4 44 [l0, .int l1, l2, l3, l4] [.int l1, .ref s0] H := rn_nx rfl
theorem c4 (a0 : Nat) (a1 : Int32) (H : HS) : rcal 4 [.ref a0, .int a1] H = rn 4 0 [.ref a0, .int a1, un, un, un] [] H := rfl
theorem x5_0 (l1 : Value) (l0 : Nat) (H : HS) : rn 5 0 [.ref l0, l1] [] H = rn 5 1 [.ref l0, l1] [.ref l0] H := rn_nx rfl
theorem x5_1 (l1 : Value) (l0 : Nat) (s0 : Nat) (H : HS) : rn 5 1 [.ref l0, l1] [.ref s0] H = rn 5 2 [.ref l0, l1] [.ref l0, .ref s0] H := rn_nx rfl
theorem x5_2 (l0 l1 : Value) (s0 : Nat) (s1 : Nat) (H : HS) : rn 5 2 [l0, l1] [.ref s0, .ref s1] H = gk 5 5 [l0, l1] [.ref s1] H (gfd H 6 3 s0) := (rn_ev ..).trans (ev_gk rfl)
theorem x5_5 (l0 l1 : Value) (s0 : Int32) (s1 : Nat) (H : HS) : rn 5 5 [l0, l1] [.int s0, .ref s1] H = rn 5 6 [l0, l1] [.int 1, .int s0, .ref s1] H := rn_nx rfl
theorem x5_6 (l0 l1 : Value) (s0 : Int32) (s1 : Int32) (s2 : Nat) (H : HS) : rn 5 6 [l0, l1] [.int s0, .int s1, .ref s2] H = rn 5 7 [l0, l1] [.int (s1 + s0), .ref s2] H := rn_nx rfl
theorem x5_7 (l0 l1 : Value) (s0 : Int32) (s1 : Nat) (H : HS) (h : recv H s1 6 = true) : rn 5 7 [l0, l1] [.int s0, .ref s1] H = bnd true 5 7 [l0, l1] [] (rcal 1 [.ref s1, .int s0] H) := rn_cal (vcal h rfl)
theorem x5_10 (l1 : Value) (l0 : Nat) (H : HS) : rn 5 10 [.ref l0, l1] [] H = rn 5 11 [.ref l0, l1] [.ref l0] H := rn_nx rfl
theorem x5_11 (l0 l1 : Value) (s0 : Nat) (H : HS) (h : recv H s0 6 = true) : rn 5 11 [l0, l1] [.ref s0] H = bnd true 5 11 [l0, l1] [] (rcal 7 [.ref s0] H) := rn_cal (vcal h rfl)
theorem x5_14 (l0 l1 : Value) (s0 : Int32) (H : HS) : rn 5 14 [l0, l1] [.int s0] H = if s0 = 0 then rn 5 45 [l0, l1] [] H else rn 5 17 [l0, l1] [] H := (rn_ev ..).trans (ev_bif rfl)
theorem x5_17 (l0 : Value) (l1 : Int32) (H : HS) : rn 5 17 [l0, .int l1] [] H = rn 5 18 [l0, .int l1] [.int l1] H := rn_nx rfl
theorem x5_18 (l0 l1 : Value) (s0 : Int32) (H : HS) : rn 5 18 [l0, l1] [.int s0] H = bnd true 5 18 [l0, l1] [] (rcal 25 [.int s0] H) := rn_cal rfl
theorem x5_21 (l0 l1 : Value) (s0 : Int32) (H : HS) : rn 5 21 [l0, l1] [.int s0] H = if s0 = 0 then rn 5 45 [l0, l1] [] H else rn 5 24 [l0, l1] [] H := (rn_ev ..).trans (ev_bif rfl)
theorem x5_24 (l1 : Value) (l0 : Nat) (H : HS) : rn 5 24 [.ref l0, l1] [] H = rn 5 25 [.ref l0, l1] [.ref l0] H := rn_nx rfl
theorem x5_25 (l0 l1 : Value) (s0 : Nat) (H : HS) : rn 5 25 [l0, l1] [.ref s0] H = gk 5 28 [l0, l1] [] H (gfd H 6 0 s0) := (rn_ev ..).trans (ev_gk rfl)
theorem x5_28 (l1 : Value) (l0 : Nat) (s0 : Nat) (H : HS) : rn 5 28 [.ref l0, l1] [.ref s0] H = rn 5 29 [.ref l0, l1] [.ref l0, .ref s0] H := rn_nx rfl
theorem x5_29 (l0 l1 : Value) (s0 : Nat) (s1 : Nat) (H : HS) : rn 5 29 [l0, l1] [.ref s0, .ref s1] H = rn 5 30 [l0, l1] [.ref s0, .ref s0, .ref s1] H := rn_nx rfl
theorem x5_30 (l0 l1 : Value) (s0 : Nat) (s1 : Nat) (s2 : Nat) (H : HS) : rn 5 30 [l0, l1] [.ref s0, .ref s1, .ref s2] H = gk 5 33 [l0, l1] [.ref s1, .ref s2] H (gfd H 6 3 s0) := (rn_ev ..).trans (ev_gk rfl)
theorem x5_33 (l0 l1 : Value) (s0 : Int32) (s1 : Nat) (s2 : Nat) (H : HS) : rn 5 33 [l0, l1] [.int s0, .ref s1, .ref s2] H = rn 5 34 [l0, l1] [.int s0, .ref s1, .int s0, .ref s2] H := rn_nx rfl
theorem x5_34 (l0 l1 : Value) (s0 : Int32) (s1 : Nat) (s2 : Int32) (s3 : Nat) (H : HS) : rn 5 34 [l0, l1] [.int s0, .ref s1, .int s2, .ref s3] H = rn 5 35 [l0, l1] [.int 1, .int s0, .ref s1, .int s2, .ref s3] H := rn_nx rfl
theorem x5_35 (l0 l1 : Value) (s0 : Int32) (s1 : Int32) (s2 : Nat) (s3 : Int32) (s4 : Nat) (H : HS) : rn 5 35 [l0, l1] [.int s0, .int s1, .ref s2, .int s3, .ref s4] H = rn 5 36 [l0, l1] [.int (s1 + s0), .ref s2, .int s3, .ref s4] H := rn_nx rfl
theorem x5_36 (l0 l1 : Value) (s0 : Int32) (s1 : Nat) (s2 : Int32) (s3 : Nat) (H : HS) : rn 5 36 [l0, l1] [.int s0, .ref s1, .int s2, .ref s3] H = pk 5 39 [l0, l1] [.int s2, .ref s3] (pfd H true 6 3 s1 (.int s0)) := (rn_ev ..).trans (ev_pk rfl)
theorem x5_39 (l0 : Value) (l1 : Int32) (s0 : Int32) (s1 : Nat) (H : HS) : rn 5 39 [l0, .int l1] [.int s0, .ref s1] H = rn 5 40 [l0, .int l1] [.int l1, .int s0, .ref s1] H := rn_nx rfl
theorem x5_40 (l0 l1 : Value) (s0 : Int32) (s1 : Int32) (s2 : Nat) (H : HS) : rn 5 40 [l0, l1] [.int s0, .int s1, .ref s2] H = rn 5 41 [l0, l1] [.int s0.toInt8.toInt32, .int s1, .ref s2] H := rn_nx rfl
theorem x5_41 (l0 l1 : Value) (s0 : Int32) (s1 : Int32) (s2 : Nat) (H : HS) : rn 5 41 [l0, l1] [.int s0, .int s1, .ref s2] H = pk 5 42 [l0, l1] [] (ast H 102 s2 s1 (.int (vp_nar .byte s0))) := (rn_ev ..).trans (ev_pk rfl)
theorem x5_42 (l0 l1 : Value) (H : HS) : rn 5 42 [l0, l1] [] H = rn 5 75 [l0, l1] [] H := rn_nx rfl
theorem x5_75 (l1 : Value) (l0 : Nat) (H : HS) : rn 5 75 [.ref l0, l1] [] H = rn 5 76 [.ref l0, l1] [.ref l0] H := rn_nx rfl
theorem x5_76 (l0 l1 : Value) (s0 : Nat) (H : HS) : rn 5 76 [l0, l1] [.ref s0] H = some (.inl (some (.ref s0)), H) := rn_end rfl
theorem x5_45 (l1 : Value) (l0 : Nat) (H : HS) : rn 5 45 [.ref l0, l1] [] H = rn 5 46 [.ref l0, l1] [.ref l0] H := rn_nx rfl
theorem x5_46 (l0 l1 : Value) (s0 : Nat) (H : HS) (h : recv H s0 6 = true) : rn 5 46 [l0, l1] [.ref s0] H = bnd true 5 46 [l0, l1] [] (rcal 7 [.ref s0] H) := rn_cal (vcal h rfl)
theorem x5_49 (l0 l1 : Value) (s0 : Int32) (H : HS) : rn 5 49 [l0, l1] [.int s0] H = if s0 = 0 then rn 5 56 [l0, l1] [] H else rn 5 52 [l0, l1] [] H := (rn_ev ..).trans (ev_bif rfl)
theorem x5_52 (l1 : Value) (l0 : Nat) (H : HS) : rn 5 52 [.ref l0, l1] [] H = rn 5 53 [.ref l0, l1] [.ref l0] H := rn_nx rfl
theorem x5_56 (l1 : Value) (l0 : Nat) (H : HS) : rn 5 56 [.ref l0, l1] [] H = rn 5 57 [.ref l0, l1] [.ref l0] H := rn_nx rfl
theorem x5_57 (l0 l1 : Value) (s0 : Nat) (H : HS) : rn 5 57 [l0, l1] [.ref s0] H = gk 5 60 [l0, l1] [] H (gfd H 6 0 s0) := (rn_ev ..).trans (ev_gk rfl)
theorem x5_60 (l1 : Value) (l0 : Nat) (s0 : Nat) (H : HS) : rn 5 60 [.ref l0, l1] [.ref s0] H = rn 5 61 [.ref l0, l1] [.ref l0, .ref s0] H := rn_nx rfl
theorem x5_61 (l0 l1 : Value) (s0 : Nat) (s1 : Nat) (H : HS) : rn 5 61 [l0, l1] [.ref s0, .ref s1] H = rn 5 62 [l0, l1] [.ref s0, .ref s0, .ref s1] H := rn_nx rfl
theorem x5_62 (l0 l1 : Value) (s0 : Nat) (s1 : Nat) (s2 : Nat) (H : HS) : rn 5 62 [l0, l1] [.ref s0, .ref s1, .ref s2] H = gk 5 65 [l0, l1] [.ref s1, .ref s2] H (gfd H 6 3 s0) := (rn_ev ..).trans (ev_gk rfl)
theorem x5_65 (l0 l1 : Value) (s0 : Int32) (s1 : Nat) (s2 : Nat) (H : HS) : rn 5 65 [l0, l1] [.int s0, .ref s1, .ref s2] H = rn 5 66 [l0, l1] [.int s0, .ref s1, .int s0, .ref s2] H := rn_nx rfl
theorem x5_66 (l0 l1 : Value) (s0 : Int32) (s1 : Nat) (s2 : Int32) (s3 : Nat) (H : HS) : rn 5 66 [l0, l1] [.int s0, .ref s1, .int s2, .ref s3] H = rn 5 67 [l0, l1] [.int 1, .int s0, .ref s1, .int s2, .ref s3] H := rn_nx rfl
theorem x5_67 (l0 l1 : Value) (s0 : Int32) (s1 : Int32) (s2 : Nat) (s3 : Int32) (s4 : Nat) (H : HS) : rn 5 67 [l0, l1] [.int s0, .int s1, .ref s2, .int s3, .ref s4] H = rn 5 68 [l0, l1] [.int (s1 + s0), .ref s2, .int s3, .ref s4] H := rn_nx rfl
theorem x5_68 (l0 l1 : Value) (s0 : Int32) (s1 : Nat) (s2 : Int32) (s3 : Nat) (H : HS) : rn 5 68 [l0, l1] [.int s0, .ref s1, .int s2, .ref s3] H = pk 5 71 [l0, l1] [.int s2, .ref s3] (pfd H true 6 3 s1 (.int s0)) := (rn_ev ..).trans (ev_pk rfl)
theorem x5_71 (l0 : Value) (l1 : Int32) (s0 : Int32) (s1 : Nat) (H : HS) : rn 5 71 [l0, .int l1] [.int s0, .ref s1] H = rn 5 72 [l0, .int l1] [.int l1, .int s0, .ref s1] H := rn_nx rfl
theorem c5 (a0 : Nat) (a1 : Int32) (H : HS) : rcal 5 [.ref a0, .int a1] H = rn 5 0 [.ref a0, .int a1] [] H := rfl
theorem x6_0 (l1 l2 l3 : Value) (l0 : Nat) (H : HS) : rn 6 0 [.ref l0, l1, l2, l3] [] H = rn 6 1 [.ref l0, l1, l2, l3] [.ref l0] H := rn_nx rfl
theorem x6_1 (l0 l1 l2 l3 : Value) (s0 : Nat) (H : HS) : rn 6 1 [l0, l1, l2, l3] [.ref s0] H = gk 6 4 [l0, l1, l2, l3] [] H (gfd H 6 3 s0) := (rn_ev ..).trans (ev_gk rfl)
theorem x6_4 (l0 l1 l2 l3 : Value) (s0 : Int32) (H : HS) : rn 6 4 [l0, l1, l2, l3] [.int s0] H = rn 6 5 [l0, (kl l1), .int s0, l3] [] H := rn_nx rfl
theorem x6_5 (l0 l1 l3 : Value) (l2 : Int32) (H : HS) : rn 6 5 [l0, l1, .int l2, l3] [] H = rn 6 6 [l0, l1, .int l2, l3] [.int l2] H := rn_nx rfl
theorem x6_6 (l0 l2 l3 : Value) (l1 : Int32) (s0 : Int32) (H : HS) : rn 6 6 [l0, .int l1, l2, l3] [.int s0] H = rn 6 7 [l0, .int l1, l2, l3] [.int l1, .int s0] H := rn_nx rfl
theorem x6_7 (l0 l1 l2 l3 : Value) (s0 : Int32) (s1 : Int32) (H : HS) : rn 6 7 [l0, l1, l2, l3] [.int s0, .int s1] H = bnd true 6 7 [l0, l1, l2, l3] [.int s1] (rcal 11 [.int s0] H) := rn_cal rfl
theorem x6_10 (l0 l1 l2 l3 : Value) (s0 : Int32) (s1 : Int32) (H : HS) : rn 6 10 [l0, l1, l2, l3] [.int s0, .int s1] H = rn 6 11 [l0, l1, l2, l3] [.int (s1 + s0)] H := rn_nx rfl
theorem x6_11 (l0 l1 l2 l3 : Value) (s0 : Int32) (H : HS) : rn 6 11 [l0, l1, l2, l3] [.int s0] H = rn 6 12 [l0, l1, (kl l2), .int s0] [] H := rn_nx rfl
theorem x6_12 (l1 l2 l3 : Value) (l0 : Nat) (H : HS) : rn 6 12 [.ref l0, l1, l2, l3] [] H = rn 6 13 [.ref l0, l1, l2, l3] [.ref l0] H := rn_nx rfl
theorem x6_13 (l0 l1 l2 : Value) (l3 : Int32) (s0 : Nat) (H : HS) : rn 6 13 [l0, l1, l2, .int l3] [.ref s0] H = rn 6 14 [l0, l1, l2, .int l3] [.int l3, .ref s0] H := rn_nx rfl
theorem x6_14 (l0 l1 l2 l3 : Value) (s0 : Int32) (s1 : Nat) (H : HS) (h : recv H s1 6 = true) : rn 6 14 [l0, l1, l2, l3] [.int s0, .ref s1] H = bnd true 6 14 [l0, l1, l2, l3] [] (rcal 1 [.ref s1, .int s0] H) := rn_cal (vcal h rfl)
theorem x6_17 (l1 l2 l3 : Value) (l0 : Nat) (H : HS) : rn 6 17 [.ref l0, l1, l2, l3] [] H = rn 6 18 [.ref l0, l1, l2, l3] [.ref l0] H := rn_nx rfl
theorem x6_18 (l0 l1 l2 l3 : Value) (s0 : Nat) (H : HS) (h : recv H s0 6 = true) : rn 6 18 [l0, l1, l2, l3] [.ref s0] H = bnd true 6 18 [l0, l1, l2, l3] [] (rcal 7 [.ref s0] H) := rn_cal (vcal h rfl)
theorem x6_21 (l0 l1 l2 l3 : Value) (s0 : Int32) (H : HS) : rn 6 21 [l0, l1, l2, l3] [.int s0] H = if s0 = 0 then rn 6 37 [l0, l1, l2, l3] [] H else rn 6 24 [l0, l1, l2, l3] [] H := (rn_ev ..).trans (ev_bif rfl)
theorem x6_24 (l0 l2 l3 : Value) (l1 : Int32) (H : HS) : rn 6 24 [l0, .int l1, l2, l3] [] H = rn 6 25 [l0, .int l1, l2, l3] [.int l1] H := rn_nx rfl
theorem x6_25 (l0 l1 l2 : Value) (l3 : Int32) (s0 : Int32) (H : HS) : rn 6 25 [l0, l1, l2, .int l3] [.int s0] H = rn 6 26 [l0, l1, l2, .int l3] [.int l3, .int s0] H := rn_nx rfl
theorem x6_26 (l1 l2 l3 : Value) (l0 : Nat) (s0 : Int32) (s1 : Int32) (H : HS) : rn 6 26 [.ref l0, l1, l2, l3] [.int s0, .int s1] H = rn 6 27 [.ref l0, l1, l2, l3] [.ref l0, .int s0, .int s1] H := rn_nx rfl
theorem x6_27 (l0 l1 l2 l3 : Value) (s0 : Nat) (s1 : Int32) (s2 : Int32) (H : HS) : rn 6 27 [l0, l1, l2, l3] [.ref s0, .int s1, .int s2] H = gk 6 30 [l0, l1, l2, l3] [.int s1, .int s2] H (gfd H 6 0 s0) := (rn_ev ..).trans (ev_gk rfl)
theorem x6_30 (l0 l1 l2 l3 : Value) (s0 : Nat) (s1 : Int32) (s2 : Int32) (H : HS) : rn 6 30 [l0, l1, l2, l3] [.ref s0, .int s1, .int s2] H = bnd true 6 30 [l0, l1, l2, l3] [] (rcal 10 [.int s2, .int s1, .ref s0] H) := rn_cal rfl
theorem x6_33 (l0 l1 l2 l3 : Value) (s0 : Int32) (H : HS) : rn 6 33 [l0, l1, l2, l3] [.int s0] H = rn 6 34 [l0, l1, l2, l3] [] H := rn_nx rfl
theorem x6_34 (l0 l1 l2 l3 : Value) (H : HS) : rn 6 34 [l0, l1, l2, l3] [] H = rn 6 48 [l0, l1, l2, l3] [] H := rn_nx rfl
theorem x6_48 (l1 l2 l3 : Value) (l0 : Nat) (H : HS) : rn 6 48 [.ref l0, l1, l2, l3] [] H = rn 6 49 [.ref l0, l1, l2, l3] [.ref l0] H := rn_nx rfl
theorem x6_49 (l0 l1 l2 : Value) (l3 : Int32) (s0 : Nat) (H : HS) : rn 6 49 [l0, l1, l2, .int l3] [.ref s0] H = rn 6 50 [l0, l1, l2, .int l3] [.int l3, .ref s0] H := rn_nx rfl
theorem x6_50 (l0 l1 l2 l3 : Value) (s0 : Int32) (s1 : Nat) (H : HS) : rn 6 50 [l0, l1, l2, l3] [.int s0, .ref s1] H = pk 6 53 [l0, l1, l2, l3] [] (pfd H true 6 3 s1 (.int s0)) := (rn_ev ..).trans (ev_pk rfl)
theorem x6_53 (l1 l2 l3 : Value) (l0 : Nat) (H : HS) : rn 6 53 [.ref l0, l1, l2, l3] [] H = rn 6 54 [.ref l0, l1, l2, l3] [.ref l0] H := rn_nx rfl
theorem x6_54 (l0 l1 l2 l3 : Value) (s0 : Nat) (H : HS) : rn 6 54 [l0, l1, l2, l3] [.ref s0] H = some (.inl (some (.ref s0)), H) := rn_end rfl
theorem x6_37 (l0 l2 l3 : Value) (l1 : Int32) (H : HS) : rn 6 37 [l0, .int l1, l2, l3] [] H = rn 6 38 [l0, .int l1, l2, l3] [.int l1] H := rn_nx rfl
theorem x6_38 (l0 l1 l3 : Value) (l2 : Int32) (s0 : Int32) (H : HS) : rn 6 38 [l0, l1, .int l2, l3] [.int s0] H = rn 6 39 [l0, l1, .int l2, l3] [.int l2, .int s0] H := rn_nx rfl
theorem x6_39 (l0 l1 l2 : Value) (l3 : Int32) (s0 : Int32) (s1 : Int32) (H : HS) : rn 6 39 [l0, l1, l2, .int l3] [.int s0, .int s1] H = rn 6 40 [l0, l1, l2, .int l3] [.int l3, .int s0, .int s1] H := rn_nx rfl
theorem x6_40 (l1 l2 l3 : Value) (l0 : Nat) (s0 : Int32) (s1 : Int32) (s2 : Int32) (H : HS) : rn 6 40 [.ref l0, l1, l2, l3] [.int s0, .int s1, .int s2] H = rn 6 41 [.ref l0, l1, l2, l3] [.ref l0, .int s0, .int s1, .int s2] H := rn_nx rfl
theorem x6_41 (l0 l1 l2 l3 : Value) (s0 : Nat) (s1 : Int32) (s2 : Int32) (s3 : Int32) (H : HS) : rn 6 41 [l0, l1, l2, l3] [.ref s0, .int s1, .int s2, .int s3] H = gk 6 44 [l0, l1, l2, l3] [.int s1, .int s2, .int s3] H (gfd H 6 0 s0) := (rn_ev ..).trans (ev_gk rfl)
theorem c6 (a0 : Nat) (a1 : Int32) (H : HS) : rcal 6 [.ref a0, .int a1] H = rn 6 0 [.ref a0, .int a1, un, un] [] H := rfl
theorem x7_0 (l0 : Value) (H : HS) : rn 7 0 [l0] [] H = rn 7 3 [l0] [.int 1] H := rn_nx rfl
theorem x7_3 (l0 : Value) (s0 : Int32) (H : HS) : rn 7 3 [l0] [.int s0] H = if s0 = 0 then rn 7 17 [l0] [] H else rn 7 6 [l0] [] H := (rn_ev ..).trans (ev_bif rfl)
theorem x7_6 (l0 : Nat) (H : HS) : rn 7 6 [.ref l0] [] H = rn 7 7 [.ref l0] [.ref l0] H := rn_nx rfl
theorem x7_7 (l0 : Value) (s0 : Nat) (H : HS) : rn 7 7 [l0] [.ref s0] H = gk 7 10 [l0] [] H (gfd H 6 1 s0) := (rn_ev ..).trans (ev_gk rfl)
theorem x7_10 (l0 : Value) (s0 : Int32) (H : HS) : rn 7 10 [l0] [.int s0] H = if s0 = 0 then rn 7 13 [l0] [] H else rn 7 17 [l0] [] H := (rn_ev ..).trans (ev_bin rfl)
theorem x7_13 (l0 : Value) (H : HS) : rn 7 13 [l0] [] H = rn 7 14 [l0] [.int 1] H := rn_nx rfl
theorem x7_14 (l0 : Value) (s0 : Int32) (H : HS) : rn 7 14 [l0] [.int s0] H = rn 7 18 [l0] [.int s0] H := rn_nx rfl
theorem x7_18 (l0 : Value) (s0 : Int32) (H : HS) : rn 7 18 [l0] [.int s0] H = if fitp 1 (.int s0) = true then some (.inl (some (.int s0)), H) else none := (rn_ev ..).trans (ev_ret rfl)
theorem x7_17 (l0 : Value) (H : HS) : rn 7 17 [l0] [] H = rn 7 18 [l0] [.int 0] H := rn_nx rfl
theorem c7 (a0 : Nat) (H : HS) : rcal 7 [.ref a0] H = rn 7 0 [.ref a0] [] H := rfl
theorem x8_0 (l0 : Nat) (H : HS) : rn 8 0 [.ref l0] [] H = rn 8 1 [.ref l0] [.ref l0] H := rn_nx rfl
theorem x8_1 (l0 : Value) (s0 : Nat) (H : HS) : rn 8 1 [l0] [.ref s0] H = gk 8 4 [l0] [] H (gfd H 6 3 s0) := (rn_ev ..).trans (ev_gk rfl)
theorem x8_4 (l0 : Value) (s0 : Int32) (H : HS) : rn 8 4 [l0] [.int s0] H = some (.inl (some (.int s0)), H) := rn_end rfl
theorem c8 (a0 : Nat) (H : HS) : rcal 8 [.ref a0] H = rn 8 0 [.ref a0] [] H := rfl
theorem x9_0 (l0 : Nat) (H : HS) : rn 9 0 [.ref l0] [] H = rn 9 1 [.ref l0] [.ref l0] H := rn_nx rfl
theorem x9_1 (l0 : Value) (s0 : Nat) (H : HS) : rn 9 1 [l0] [.ref s0] H = gk 9 4 [l0] [] H (gfd H 8 0 s0) := (rn_ev ..).trans (ev_gk rfl)
theorem x9_4 (l0 : Value) (s0 : Int32) (H : HS) : rn 9 4 [l0] [.int s0] H = some (.inl (some (.int s0)), H) := rn_end rfl
theorem c9 (a0 : Nat) (H : HS) : rcal 9 [.ref a0] H = rn 9 0 [.ref a0] [] H := rfl
theorem x10_0 (l0 l2 l3 l4 l5 l6 : Value) (l1 : Int32) (H : HS) : rn 10 0 [l0, .int l1, l2, l3, l4, l5, l6] [] H = rn 10 1 [l0, .int l1, l2, l3, l4, l5, l6] [.int l1] H := rn_nx rfl
theorem x10_1 (l0 l1 l2 l3 l4 l5 l6 : Value) (s0 : Int32) (H : HS) : rn 10 1 [l0, l1, l2, l3, l4, l5, l6] [.int s0] H = rn 10 3 [l0, l1, l2, l3, (kl l4), .int s0, l6] [] H := rn_nx rfl
theorem x10_3 (l1 l2 l3 l4 l5 l6 : Value) (l0 : Int32) (H : HS) : rn 10 3 [.int l0, l1, l2, l3, l4, l5, l6] [] H = rn 10 4 [.int l0, l1, l2, l3, l4, l5, l6] [.int l0] H := rn_nx rfl
theorem x10_4 (l0 l1 l2 l3 l4 l5 l6 : Value) (s0 : Int32) (H : HS) : rn 10 4 [l0, l1, l2, l3, l4, l5, l6] [.int s0] H = if s0 < 0 then rn 10 7 [l0, l1, l2, l3, l4, l5, l6] [] H else rn 10 11 [l0, l1, l2, l3, l4, l5, l6] [] H := (rn_ev ..).trans (ev_bin rfl)
theorem x10_7 (l0 l1 l2 l3 l4 l5 l6 : Value) (H : HS) : rn 10 7 [l0, l1, l2, l3, l4, l5, l6] [] H = rn 10 8 [l0, l1, l2, l3, l4, l5, l6] [.int 1] H := rn_nx rfl
theorem x10_8 (l0 l1 l2 l3 l4 l5 l6 : Value) (s0 : Int32) (H : HS) : rn 10 8 [l0, l1, l2, l3, l4, l5, l6] [.int s0] H = rn 10 12 [l0, l1, l2, l3, l4, l5, l6] [.int s0] H := rn_nx rfl
theorem x10_12 (l0 l1 l2 l3 l4 l5 l6 : Value) (s0 : Int32) (H : HS) : rn 10 12 [l0, l1, l2, l3, l4, l5, l6] [.int s0] H = rn 10 14 [l0, l1, l2, l3, l4, (kl l5), .int s0] [] H := rn_nx rfl
theorem x10_14 (l0 l1 l2 l3 l4 l5 : Value) (l6 : Int32) (H : HS) : rn 10 14 [l0, l1, l2, l3, l4, l5, .int l6] [] H = rn 10 16 [l0, l1, l2, l3, l4, l5, .int l6] [.int l6] H := rn_nx rfl
theorem x10_16 (l0 l1 l2 l3 l4 l5 l6 : Value) (s0 : Int32) (H : HS) : rn 10 16 [l0, l1, l2, l3, l4, l5, l6] [.int s0] H = if s0 = 0 then rn 10 19 [l0, l1, l2, l3, l4, l5, l6] [] H else rn 10 22 [l0, l1, l2, l3, l4, l5, l6] [] H := (rn_ev ..).trans (ev_bin rfl)
theorem x10_19 (l1 l2 l3 l4 l5 l6 : Value) (l0 : Int32) (H : HS) : rn 10 19 [.int l0, l1, l2, l3, l4, l5, l6] [] H = rn 10 20 [.int l0, l1, l2, l3, l4, l5, l6] [.int l0] H := rn_nx rfl
theorem x10_20 (l0 l1 l2 l3 l4 l5 l6 : Value) (s0 : Int32) (H : HS) : rn 10 20 [l0, l1, l2, l3, l4, l5, l6] [.int s0] H = rn 10 21 [l0, l1, l2, l3, l4, l5, l6] [.int (-s0)] H := rn_nx rfl
theorem x10_21 (l0 l1 l2 l3 l4 l5 l6 : Value) (s0 : Int32) (H : HS) : rn 10 21 [l0, l1, l2, l3, l4, l5, l6] [.int s0] H = rn 10 22 [.int s0, l1, l2, l3, l4, l5, l6] [] H := rn_nx rfl
theorem x10_22 (l1 l2 l3 l4 l5 l6 : Value) (l0 : Int32) (H : HS) : rn 10 22 [.int l0, l1, l2, l3, l4, l5, l6] [] H = rn 10 23 [.int l0, l1, l2, l3, l4, l5, l6] [.int l0] H := rn_nx rfl
theorem x10_23 (l0 l1 l2 l3 l4 l5 l6 : Value) (s0 : Int32) (H : HS) : rn 10 23 [l0, l1, l2, l3, l4, l5, l6] [.int s0] H = rn 10 25 [l0, l1, l2, l3, l4, l5, l6] [.int (-100), .int s0] H := rn_nx rfl
theorem x10_25 (l0 l1 l2 l3 l4 l5 l6 : Value) (s0 : Int32) (s1 : Int32) (H : HS) : rn 10 25 [l0, l1, l2, l3, l4, l5, l6] [.int s0, .int s1] H = if s0 < s1 then rn 10 72 [l0, l1, l2, l3, l4, l5, l6] [] H else rn 10 28 [l0, l1, l2, l3, l4, l5, l6] [] H := (rn_ev ..).trans (ev_bif rfl)
theorem x10_28 (l1 l2 l3 l4 l5 l6 : Value) (l0 : Int32) (H : HS) : rn 10 28 [.int l0, l1, l2, l3, l4, l5, l6] [] H = rn 10 29 [.int l0, l1, l2, l3, l4, l5, l6] [.int l0] H := rn_nx rfl
theorem x10_29 (l0 l1 l2 l3 l4 l5 l6 : Value) (s0 : Int32) (H : HS) : rn 10 29 [l0, l1, l2, l3, l4, l5, l6] [.int s0] H = rn 10 31 [l0, l1, l2, l3, l4, l5, l6] [.int 100, .int s0] H := rn_nx rfl
theorem x10_31 (l0 l1 l2 l3 l4 l5 l6 : Value) (s0 : Int32) (s1 : Int32) (H : HS) : rn 10 31 [l0, l1, l2, l3, l4, l5, l6] [.int s0, .int s1] H = if s0 = 0 then none else rn 10 32 [l0, l1, l2, l3, l4, l5, l6] [.int (s1 / s0)] H := (rn_ev ..).trans (ev_if rfl)
theorem x10_32 (l0 l1 l2 l3 l4 l5 l6 : Value) (s0 : Int32) (H : HS) : rn 10 32 [l0, l1, l2, l3, l4, l5, l6] [.int s0] H = rn 10 33 [l0, l1, (kl l2), .int s0, l4, l5, l6] [] H := rn_nx rfl
theorem x10_33 (l0 l1 l2 l4 l5 l6 : Value) (l3 : Int32) (H : HS) : rn 10 33 [l0, l1, l2, .int l3, l4, l5, l6] [] H = rn 10 34 [l0, l1, l2, .int l3, l4, l5, l6] [.int l3] H := rn_nx rfl
theorem x10_34 (l0 l1 l2 l3 l4 l5 l6 : Value) (s0 : Int32) (H : HS) : rn 10 34 [l0, l1, l2, l3, l4, l5, l6] [.int s0] H = rn 10 36 [l0, l1, l2, l3, l4, l5, l6] [.int 100, .int s0] H := rn_nx rfl
theorem x10_36 (l0 l1 l2 l3 l4 l5 l6 : Value) (s0 : Int32) (s1 : Int32) (H : HS) : rn 10 36 [l0, l1, l2, l3, l4, l5, l6] [.int s0, .int s1] H = rn 10 37 [l0, l1, l2, l3, l4, l5, l6] [.int (s1 * s0)] H := rn_nx rfl
theorem x10_37 (l1 l2 l3 l4 l5 l6 : Value) (l0 : Int32) (s0 : Int32) (H : HS) : rn 10 37 [.int l0, l1, l2, l3, l4, l5, l6] [.int s0] H = rn 10 38 [.int l0, l1, l2, l3, l4, l5, l6] [.int l0, .int s0] H := rn_nx rfl
theorem x10_38 (l0 l1 l2 l3 l4 l5 l6 : Value) (s0 : Int32) (s1 : Int32) (H : HS) : rn 10 38 [l0, l1, l2, l3, l4, l5, l6] [.int s0, .int s1] H = rn 10 39 [l0, l1, l2, l3, l4, l5, l6] [.int (s1 - s0)] H := rn_nx rfl
theorem x10_39 (l0 l1 l2 l3 l4 l5 l6 : Value) (s0 : Int32) (H : HS) : rn 10 39 [l0, l1, l2, l3, l4, l5, l6] [.int s0] H = rn 10 41 [l0, l1, l2, (kl l3), .int s0, l5, l6] [] H := rn_nx rfl
theorem x10_41 (l0 l1 l2 l4 l5 l6 : Value) (l3 : Int32) (H : HS) : rn 10 41 [l0, l1, l2, .int l3, l4, l5, l6] [] H = rn 10 42 [l0, l1, l2, .int l3, l4, l5, l6] [.int l3] H := rn_nx rfl
theorem x10_42 (l0 l1 l2 l3 l4 l5 l6 : Value) (s0 : Int32) (H : HS) : rn 10 42 [l0, l1, l2, l3, l4, l5, l6] [.int s0] H = rn 10 43 [.int s0, l1, l2, l3, l4, l5, l6] [] H := rn_nx rfl
theorem x10_43 (l0 l1 l3 l4 l5 l6 : Value) (l2 : Nat) (H : HS) : rn 10 43 [l0, l1, .ref l2, l3, l4, l5, l6] [] H = rn 10 44 [l0, l1, .ref l2, l3, l4, l5, l6] [.ref l2] H := rn_nx rfl
theorem x10_44 (l0 l1 l2 l3 l4 l6 : Value) (l5 : Int32) (s0 : Nat) (H : HS) : rn 10 44 [l0, l1, l2, l3, l4, .int l5, l6] [.ref s0] H = rn 10 47 [l0, l1, l2, l3, (kl l4), .int (l5 + (-1)), l6] [.ref s0] H := rn_nx rfl
theorem x10_47 (l0 l1 l2 l3 l4 l6 : Value) (l5 : Int32) (s0 : Nat) (H : HS) : rn 10 47 [l0, l1, l2, l3, l4, .int l5, l6] [.ref s0] H = rn 10 49 [l0, l1, l2, l3, l4, .int l5, l6] [.int l5, .ref s0] H := rn_nx rfl
theorem x10_49 (l0 l1 l2 l3 l4 l5 l6 : Value) (s0 : Int32) (s1 : Nat) (H : HS) : rn 10 49 [l0, l1, l2, l3, l4, l5, l6] [.int s0, .ref s1] H = rn 10 52 [l0, l1, l2, l3, l4, l5, l6] [.ref 28, .int s0, .ref s1] H := rn_nx rfl
theorem x10_52 (l0 l1 l2 l3 l5 l6 : Value) (l4 : Int32) (s0 : Nat) (s1 : Int32) (s2 : Nat) (H : HS) : rn 10 52 [l0, l1, l2, l3, .int l4, l5, l6] [.ref s0, .int s1, .ref s2] H = rn 10 54 [l0, l1, l2, l3, .int l4, l5, l6] [.int l4, .ref s0, .int s1, .ref s2] H := rn_nx rfl
theorem x10_54 (l0 l1 l2 l3 l4 l5 l6 : Value) (s0 : Int32) (s1 : Nat) (s2 : Int32) (s3 : Nat) (H : HS) : rn 10 54 [l0, l1, l2, l3, l4, l5, l6] [.int s0, .ref s1, .int s2, .ref s3] H = gk 10 55 [l0, l1, l2, l3, l4, l5, l6] [.int s2, .ref s3] H (ald H 102 s1 s0) := (rn_ev ..).trans (ev_gk rfl)
theorem x10_55 (l0 l1 l2 l3 l4 l5 l6 : Value) (s0 : Int32) (s1 : Int32) (s2 : Nat) (H : HS) : rn 10 55 [l0, l1, l2, l3, l4, l5, l6] [.int s0, .int s1, .ref s2] H = pk 10 56 [l0, l1, l2, l3, l4, l5, l6] [] (ast H 102 s2 s1 (.int (vp_nar .byte s0))) := (rn_ev ..).trans (ev_pk rfl)
theorem x10_56 (l0 l1 l3 l4 l5 l6 : Value) (l2 : Nat) (H : HS) : rn 10 56 [l0, l1, .ref l2, l3, l4, l5, l6] [] H = rn 10 57 [l0, l1, .ref l2, l3, l4, l5, l6] [.ref l2] H := rn_nx rfl
theorem x10_57 (l0 l1 l2 l3 l4 l6 : Value) (l5 : Int32) (s0 : Nat) (H : HS) : rn 10 57 [l0, l1, l2, l3, l4, .int l5, l6] [.ref s0] H = rn 10 60 [l0, l1, l2, l3, (kl l4), .int (l5 + (-1)), l6] [.ref s0] H := rn_nx rfl
theorem x10_60 (l0 l1 l2 l3 l4 l6 : Value) (l5 : Int32) (s0 : Nat) (H : HS) : rn 10 60 [l0, l1, l2, l3, l4, .int l5, l6] [.ref s0] H = rn 10 62 [l0, l1, l2, l3, l4, .int l5, l6] [.int l5, .ref s0] H := rn_nx rfl
theorem x10_62 (l0 l1 l2 l3 l4 l5 l6 : Value) (s0 : Int32) (s1 : Nat) (H : HS) : rn 10 62 [l0, l1, l2, l3, l4, l5, l6] [.int s0, .ref s1] H = rn 10 65 [l0, l1, l2, l3, l4, l5, l6] [.ref 29, .int s0, .ref s1] H := rn_nx rfl
theorem x10_65 (l0 l1 l2 l3 l5 l6 : Value) (l4 : Int32) (s0 : Nat) (s1 : Int32) (s2 : Nat) (H : HS) : rn 10 65 [l0, l1, l2, l3, .int l4, l5, l6] [.ref s0, .int s1, .ref s2] H = rn 10 67 [l0, l1, l2, l3, .int l4, l5, l6] [.int l4, .ref s0, .int s1, .ref s2] H := rn_nx rfl
theorem x10_67 (l0 l1 l2 l3 l4 l5 l6 : Value) (s0 : Int32) (s1 : Nat) (s2 : Int32) (s3 : Nat) (H : HS) : rn 10 67 [l0, l1, l2, l3, l4, l5, l6] [.int s0, .ref s1, .int s2, .ref s3] H = gk 10 68 [l0, l1, l2, l3, l4, l5, l6] [.int s2, .ref s3] H (ald H 102 s1 s0) := (rn_ev ..).trans (ev_gk rfl)
theorem x10_68 (l0 l1 l2 l3 l4 l5 l6 : Value) (s0 : Int32) (s1 : Int32) (s2 : Nat) (H : HS) : rn 10 68 [l0, l1, l2, l3, l4, l5, l6] [.int s0, .int s1, .ref s2] H = pk 10 69 [l0, l1, l2, l3, l4, l5, l6] [] (ast H 102 s2 s1 (.int (vp_nar .byte s0))) := (rn_ev ..).trans (ev_pk rfl)
theorem x10_69 (l0 l1 l2 l3 l4 l5 l6 : Value) (H : HS) : rn 10 69 [l0, l1, l2, l3, l4, l5, l6] [] H = rn 10 22 [l0, l1, l2, l3, l4, l5, l6] [] H := rn_nx rfl
theorem x10_72 (l0 l1 l3 l4 l5 l6 : Value) (l2 : Nat) (H : HS) : rn 10 72 [l0, l1, .ref l2, l3, l4, l5, l6] [] H = rn 10 73 [l0, l1, .ref l2, l3, l4, l5, l6] [.ref l2] H := rn_nx rfl
theorem x10_73 (l0 l1 l2 l3 l4 l6 : Value) (l5 : Int32) (s0 : Nat) (H : HS) : rn 10 73 [l0, l1, l2, l3, l4, .int l5, l6] [.ref s0] H = rn 10 76 [l0, l1, l2, l3, (kl l4), .int (l5 + (-1)), l6] [.ref s0] H := rn_nx rfl
theorem x10_76 (l0 l1 l2 l3 l4 l6 : Value) (l5 : Int32) (s0 : Nat) (H : HS) : rn 10 76 [l0, l1, l2, l3, l4, .int l5, l6] [.ref s0] H = rn 10 78 [l0, l1, l2, l3, l4, .int l5, l6] [.int l5, .ref s0] H := rn_nx rfl
theorem x10_78 (l0 l1 l2 l3 l4 l5 l6 : Value) (s0 : Int32) (s1 : Nat) (H : HS) : rn 10 78 [l0, l1, l2, l3, l4, l5, l6] [.int s0, .ref s1] H = rn 10 81 [l0, l1, l2, l3, l4, l5, l6] [.ref 28, .int s0, .ref s1] H := rn_nx rfl
theorem x10_81 (l1 l2 l3 l4 l5 l6 : Value) (l0 : Int32) (s0 : Nat) (s1 : Int32) (s2 : Nat) (H : HS) : rn 10 81 [.int l0, l1, l2, l3, l4, l5, l6] [.ref s0, .int s1, .ref s2] H = rn 10 82 [.int l0, l1, l2, l3, l4, l5, l6] [.int l0, .ref s0, .int s1, .ref s2] H := rn_nx rfl
theorem x10_82 (l0 l1 l2 l3 l4 l5 l6 : Value) (s0 : Int32) (s1 : Nat) (s2 : Int32) (s3 : Nat) (H : HS) : rn 10 82 [l0, l1, l2, l3, l4, l5, l6] [.int s0, .ref s1, .int s2, .ref s3] H = rn 10 83 [l0, l1, l2, l3, l4, l5, l6] [.int (-s0), .ref s1, .int s2, .ref s3] H := rn_nx rfl
theorem x10_83 (l0 l1 l2 l3 l4 l5 l6 : Value) (s0 : Int32) (s1 : Nat) (s2 : Int32) (s3 : Nat) (H : HS) : rn 10 83 [l0, l1, l2, l3, l4, l5, l6] [.int s0, .ref s1, .int s2, .ref s3] H = gk 10 84 [l0, l1, l2, l3, l4, l5, l6] [.int s2, .ref s3] H (ald H 102 s1 s0) := (rn_ev ..).trans (ev_gk rfl)
theorem x10_84 (l0 l1 l2 l3 l4 l5 l6 : Value) (s0 : Int32) (s1 : Int32) (s2 : Nat) (H : HS) : rn 10 84 [l0, l1, l2, l3, l4, l5, l6] [.int s0, .int s1, .ref s2] H = pk 10 85 [l0, l1, l2, l3, l4, l5, l6] [] (ast H 102 s2 s1 (.int (vp_nar .byte s0))) := (rn_ev ..).trans (ev_pk rfl)
theorem x10_85 (l1 l2 l3 l4 l5 l6 : Value) (l0 : Int32) (H : HS) : rn 10 85 [.int l0, l1, l2, l3, l4, l5, l6] [] H = rn 10 86 [.int l0, l1, l2, l3, l4, l5, l6] [.int l0] H := rn_nx rfl
theorem x10_86 (l0 l1 l2 l3 l4 l5 l6 : Value) (s0 : Int32) (H : HS) : rn 10 86 [l0, l1, l2, l3, l4, l5, l6] [.int s0] H = rn 10 88 [l0, l1, l2, l3, l4, l5, l6] [.int (-9), .int s0] H := rn_nx rfl
theorem x10_88 (l0 l1 l2 l3 l4 l5 l6 : Value) (s0 : Int32) (s1 : Int32) (H : HS) : rn 10 88 [l0, l1, l2, l3, l4, l5, l6] [.int s0, .int s1] H = if s1 < s0 then rn 10 91 [l0, l1, l2, l3, l4, l5, l6] [] H else rn 10 104 [l0, l1, l2, l3, l4, l5, l6] [] H := (rn_ev ..).trans (ev_bin rfl)
theorem x10_91 (l0 l1 l3 l4 l5 l6 : Value) (l2 : Nat) (H : HS) : rn 10 91 [l0, l1, .ref l2, l3, l4, l5, l6] [] H = rn 10 92 [l0, l1, .ref l2, l3, l4, l5, l6] [.ref l2] H := rn_nx rfl
theorem x10_92 (l0 l1 l2 l3 l4 l6 : Value) (l5 : Int32) (s0 : Nat) (H : HS) : rn 10 92 [l0, l1, l2, l3, l4, .int l5, l6] [.ref s0] H = rn 10 95 [l0, l1, l2, l3, (kl l4), .int (l5 + (-1)), l6] [.ref s0] H := rn_nx rfl
theorem x10_95 (l0 l1 l2 l3 l4 l6 : Value) (l5 : Int32) (s0 : Nat) (H : HS) : rn 10 95 [l0, l1, l2, l3, l4, .int l5, l6] [.ref s0] H = rn 10 97 [l0, l1, l2, l3, l4, .int l5, l6] [.int l5, .ref s0] H := rn_nx rfl
theorem x10_97 (l0 l1 l2 l3 l4 l5 l6 : Value) (s0 : Int32) (s1 : Nat) (H : HS) : rn 10 97 [l0, l1, l2, l3, l4, l5, l6] [.int s0, .ref s1] H = rn 10 100 [l0, l1, l2, l3, l4, l5, l6] [.ref 29, .int s0, .ref s1] H := rn_nx rfl
theorem x10_100 (l1 l2 l3 l4 l5 l6 : Value) (l0 : Int32) (s0 : Nat) (s1 : Int32) (s2 : Nat) (H : HS) : rn 10 100 [.int l0, l1, l2, l3, l4, l5, l6] [.ref s0, .int s1, .ref s2] H = rn 10 101 [.int l0, l1, l2, l3, l4, l5, l6] [.int l0, .ref s0, .int s1, .ref s2] H := rn_nx rfl
theorem x10_101 (l0 l1 l2 l3 l4 l5 l6 : Value) (s0 : Int32) (s1 : Nat) (s2 : Int32) (s3 : Nat) (H : HS) : rn 10 101 [l0, l1, l2, l3, l4, l5, l6] [.int s0, .ref s1, .int s2, .ref s3] H = rn 10 102 [l0, l1, l2, l3, l4, l5, l6] [.int (-s0), .ref s1, .int s2, .ref s3] H := rn_nx rfl
theorem x10_102 (l0 l1 l2 l3 l4 l5 l6 : Value) (s0 : Int32) (s1 : Nat) (s2 : Int32) (s3 : Nat) (H : HS) : rn 10 102 [l0, l1, l2, l3, l4, l5, l6] [.int s0, .ref s1, .int s2, .ref s3] H = gk 10 103 [l0, l1, l2, l3, l4, l5, l6] [.int s2, .ref s3] H (ald H 102 s1 s0) := (rn_ev ..).trans (ev_gk rfl)
theorem x10_103 (l0 l1 l2 l3 l4 l5 l6 : Value) (s0 : Int32) (s1 : Int32) (s2 : Nat) (H : HS) : rn 10 103 [l0, l1, l2, l3, l4, l5, l6] [.int s0, .int s1, .ref s2] H = pk 10 104 [l0, l1, l2, l3, l4, l5, l6] [] (ast H 102 s2 s1 (.int (vp_nar .byte s0))) := (rn_ev ..).trans (ev_pk rfl)
theorem x10_104 (l0 l1 l2 l3 l4 l5 : Value) (l6 : Int32) (H : HS) : rn 10 104 [l0, l1, l2, l3, l4, l5, .int l6] [] H = rn 10 106 [l0, l1, l2, l3, l4, l5, .int l6] [.int l6] H := rn_nx rfl
theorem x10_106 (l0 l1 l2 l3 l4 l5 l6 : Value) (s0 : Int32) (H : HS) : rn 10 106 [l0, l1, l2, l3, l4, l5, l6] [.int s0] H = if s0 = 0 then rn 10 118 [l0, l1, l2, l3, l4, l5, l6] [] H else rn 10 109 [l0, l1, l2, l3, l4, l5, l6] [] H := (rn_ev ..).trans (ev_bif rfl)
theorem x10_109 (l0 l1 l3 l4 l5 l6 : Value) (l2 : Nat) (H : HS) : rn 10 109 [l0, l1, .ref l2, l3, l4, l5, l6] [] H = rn 10 110 [l0, l1, .ref l2, l3, l4, l5, l6] [.ref l2] H := rn_nx rfl
theorem x10_110 (l0 l1 l2 l3 l4 l6 : Value) (l5 : Int32) (s0 : Nat) (H : HS) : rn 10 110 [l0, l1, l2, l3, l4, .int l5, l6] [.ref s0] H = rn 10 113 [l0, l1, l2, l3, (kl l4), .int (l5 + (-1)), l6] [.ref s0] H := rn_nx rfl
theorem x10_113 (l0 l1 l2 l3 l4 l6 : Value) (l5 : Int32) (s0 : Nat) (H : HS) : rn 10 113 [l0, l1, l2, l3, l4, .int l5, l6] [.ref s0] H = rn 10 115 [l0, l1, l2, l3, l4, .int l5, l6] [.int l5, .ref s0] H := rn_nx rfl
theorem x10_115 (l0 l1 l2 l3 l4 l5 l6 : Value) (s0 : Int32) (s1 : Nat) (H : HS) : rn 10 115 [l0, l1, l2, l3, l4, l5, l6] [.int s0, .ref s1] H = rn 10 117 [l0, l1, l2, l3, l4, l5, l6] [.int 45, .int s0, .ref s1] H := rn_nx rfl
theorem x10_117 (l0 l1 l2 l3 l4 l5 l6 : Value) (s0 : Int32) (s1 : Int32) (s2 : Nat) (H : HS) : rn 10 117 [l0, l1, l2, l3, l4, l5, l6] [.int s0, .int s1, .ref s2] H = pk 10 118 [l0, l1, l2, l3, l4, l5, l6] [] (ast H 102 s2 s1 (.int (vp_nar .byte s0))) := (rn_ev ..).trans (ev_pk rfl)
theorem x10_118 (l0 l1 l2 l3 l4 l6 : Value) (l5 : Int32) (H : HS) : rn 10 118 [l0, l1, l2, l3, l4, .int l5, l6] [] H = rn 10 120 [l0, l1, l2, l3, l4, .int l5, l6] [.int l5] H := rn_nx rfl
theorem x10_120 (l0 l1 l2 l3 l4 l5 l6 : Value) (s0 : Int32) (H : HS) : rn 10 120 [l0, l1, l2, l3, l4, l5, l6] [.int s0] H = some (.inl (some (.int s0)), H) := rn_end rfl
theorem x10_11 (l0 l1 l2 l3 l4 l5 l6 : Value) (H : HS) : rn 10 11 [l0, l1, l2, l3, l4, l5, l6] [] H = rn 10 12 [l0, l1, l2, l3, l4, l5, l6] [.int 0] H := rn_nx rfl
theorem c10 (a0 : Int32) (a1 : Int32) (a2 : Nat) (H : HS) : rcal 10 [.int a0, .int a1, .ref a2] H = rn 10 0 [.int a0, .int a1, .ref a2, un, un, un, un] [] H := rfl
theorem x11_0 (l0 l1 l2 l3 : Value) (H : HS) : rn 11 0 [l0, l1, l2, l3] [] H = rn 11 1 [l0, l1, l2, l3] [.int 1] H := rn_nx rfl
theorem x11_1 (l0 l1 l2 l3 : Value) (s0 : Int32) (H : HS) : rn 11 1 [l0, l1, l2, l3] [.int s0] H = rn 11 2 [(kl l0), .int s0, l2, l3] [] H := rn_nx rfl
theorem x11_2 (l1 l2 l3 : Value) (l0 : Int32) (H : HS) : rn 11 2 [.int l0, l1, l2, l3] [] H = rn 11 3 [.int l0, l1, l2, l3] [.int l0] H := rn_nx rfl
theorem x11_3 (l0 l1 l2 l3 : Value) (s0 : Int32) (H : HS) : rn 11 3 [l0, l1, l2, l3] [.int s0] H = if s0 < 0 then rn 11 11 [l0, l1, l2, l3] [] H else rn 11 6 [l0, l1, l2, l3] [] H := (rn_ev ..).trans (ev_bif rfl)
theorem x11_6 (l0 l1 l2 l3 : Value) (H : HS) : rn 11 6 [l0, l1, l2, l3] [] H = rn 11 7 [l0, l1, l2, l3] [.int 0] H := rn_nx rfl
theorem x11_7 (l0 l1 l2 l3 : Value) (s0 : Int32) (H : HS) : rn 11 7 [l0, l1, l2, l3] [.int s0] H = rn 11 8 [(kl l0), .int s0, l2, l3] [] H := rn_nx rfl
theorem x11_8 (l1 l2 l3 : Value) (l0 : Int32) (H : HS) : rn 11 8 [.int l0, l1, l2, l3] [] H = rn 11 9 [.int l0, l1, l2, l3] [.int l0] H := rn_nx rfl
theorem x11_9 (l0 l1 l2 l3 : Value) (s0 : Int32) (H : HS) : rn 11 9 [l0, l1, l2, l3] [.int s0] H = rn 11 10 [l0, l1, l2, l3] [.int (-s0)] H := rn_nx rfl
theorem x11_10 (l0 l1 l2 l3 : Value) (s0 : Int32) (H : HS) : rn 11 10 [l0, l1, l2, l3] [.int s0] H = rn 11 11 [.int s0, l1, l2, l3] [] H := rn_nx rfl
theorem x11_11 (l0 l1 l2 l3 : Value) (H : HS) : rn 11 11 [l0, l1, l2, l3] [] H = rn 11 13 [l0, l1, l2, l3] [.int (-10)] H := rn_nx rfl
theorem x11_13 (l0 l1 l2 l3 : Value) (s0 : Int32) (H : HS) : rn 11 13 [l0, l1, l2, l3] [.int s0] H = rn 11 14 [l0, (kl l1), .int s0, l3] [] H := rn_nx rfl
theorem x11_14 (l0 l1 l2 l3 : Value) (H : HS) : rn 11 14 [l0, l1, l2, l3] [] H = rn 11 15 [l0, l1, l2, l3] [.int 1] H := rn_nx rfl
theorem x11_15 (l0 l1 l2 l3 : Value) (s0 : Int32) (H : HS) : rn 11 15 [l0, l1, l2, l3] [.int s0] H = rn 11 16 [l0, l1, (kl l2), .int s0] [] H := rn_nx rfl
theorem x11_16 (l0 l1 l2 : Value) (l3 : Int32) (H : HS) : rn 11 16 [l0, l1, l2, .int l3] [] H = rn 11 17 [l0, l1, l2, .int l3] [.int l3] H := rn_nx rfl
theorem x11_17 (l0 l1 l2 l3 : Value) (s0 : Int32) (H : HS) : rn 11 17 [l0, l1, l2, l3] [.int s0] H = rn 11 19 [l0, l1, l2, l3] [.int 10, .int s0] H := rn_nx rfl
theorem x11_19 (l0 l1 l2 l3 : Value) (s0 : Int32) (s1 : Int32) (H : HS) : rn 11 19 [l0, l1, l2, l3] [.int s0, .int s1] H = if s1 < s0 then rn 11 22 [l0, l1, l2, l3] [] H else rn 11 42 [l0, l1, l2, l3] [] H := (rn_ev ..).trans (ev_bin rfl)
theorem x11_22 (l1 l2 l3 : Value) (l0 : Int32) (H : HS) : rn 11 22 [.int l0, l1, l2, l3] [] H = rn 11 23 [.int l0, l1, l2, l3] [.int l0] H := rn_nx rfl
theorem x11_23 (l0 l1 l3 : Value) (l2 : Int32) (s0 : Int32) (H : HS) : rn 11 23 [l0, l1, .int l2, l3] [.int s0] H = rn 11 24 [l0, l1, .int l2, l3] [.int l2, .int s0] H := rn_nx rfl
theorem x11_24 (l0 l1 l2 l3 : Value) (s0 : Int32) (s1 : Int32) (H : HS) : rn 11 24 [l0, l1, l2, l3] [.int s0, .int s1] H = if s0 < s1 then rn 11 27 [l0, l1, l2, l3] [] H else rn 11 31 [l0, l1, l2, l3] [] H := (rn_ev ..).trans (ev_bin rfl)
theorem x11_27 (l0 l1 l2 : Value) (l3 : Int32) (H : HS) : rn 11 27 [l0, l1, l2, .int l3] [] H = rn 11 28 [l0, l1, l2, .int l3] [.int l3] H := rn_nx rfl
theorem x11_28 (l0 l2 l3 : Value) (l1 : Int32) (s0 : Int32) (H : HS) : rn 11 28 [l0, .int l1, l2, l3] [.int s0] H = rn 11 29 [l0, .int l1, l2, l3] [.int l1, .int s0] H := rn_nx rfl
theorem x11_29 (l0 l1 l2 l3 : Value) (s0 : Int32) (s1 : Int32) (H : HS) : rn 11 29 [l0, l1, l2, l3] [.int s0, .int s1] H = rn 11 30 [l0, l1, l2, l3] [.int (s1 + s0)] H := rn_nx rfl
theorem x11_30 (l0 l1 l2 l3 : Value) (s0 : Int32) (H : HS) : rn 11 30 [l0, l1, l2, l3] [.int s0] H = some (.inl (some (.int s0)), H) := rn_end rfl
theorem x11_31 (l0 l1 l2 l3 : Value) (H : HS) : rn 11 31 [l0, l1, l2, l3] [] H = rn 11 33 [l0, l1, l2, l3] [.int 10] H := rn_nx rfl
theorem x11_33 (l0 l1 l3 : Value) (l2 : Int32) (s0 : Int32) (H : HS) : rn 11 33 [l0, l1, .int l2, l3] [.int s0] H = rn 11 34 [l0, l1, .int l2, l3] [.int l2, .int s0] H := rn_nx rfl
theorem x11_34 (l0 l1 l2 l3 : Value) (s0 : Int32) (s1 : Int32) (H : HS) : rn 11 34 [l0, l1, l2, l3] [.int s0, .int s1] H = rn 11 35 [l0, l1, l2, l3] [.int (s1 * s0)] H := rn_nx rfl
theorem x11_35 (l0 l1 l2 l3 : Value) (s0 : Int32) (H : HS) : rn 11 35 [l0, l1, l2, l3] [.int s0] H = rn 11 36 [l0, (kl l1), .int s0, l3] [] H := rn_nx rfl
theorem x11_36 (l0 l1 l2 : Value) (l3 : Int32) (H : HS) : rn 11 36 [l0, l1, l2, .int l3] [] H = rn 11 39 [l0, l1, (kl l2), .int (l3 + 1)] [] H := rn_nx rfl
theorem x11_39 (l0 l1 l2 l3 : Value) (H : HS) : rn 11 39 [l0, l1, l2, l3] [] H = rn 11 16 [l0, l1, l2, l3] [] H := rn_nx rfl
theorem x11_42 (l0 l1 l2 l3 : Value) (H : HS) : rn 11 42 [l0, l1, l2, l3] [] H = rn 11 44 [l0, l1, l2, l3] [.int 10] H := rn_nx rfl
theorem x11_44 (l0 l2 l3 : Value) (l1 : Int32) (s0 : Int32) (H : HS) : rn 11 44 [l0, .int l1, l2, l3] [.int s0] H = rn 11 45 [l0, .int l1, l2, l3] [.int l1, .int s0] H := rn_nx rfl
theorem x11_45 (l0 l1 l2 l3 : Value) (s0 : Int32) (s1 : Int32) (H : HS) : rn 11 45 [l0, l1, l2, l3] [.int s0, .int s1] H = rn 11 46 [l0, l1, l2, l3] [.int (s1 + s0)] H := rn_nx rfl
theorem x11_46 (l0 l1 l2 l3 : Value) (s0 : Int32) (H : HS) : rn 11 46 [l0, l1, l2, l3] [.int s0] H = some (.inl (some (.int s0)), H) := rn_end rfl
theorem c11 (a0 : Int32) (H : HS) : rcal 11 [.int a0] H = rn 11 0 [.int a0, un, un, un] [] H := rfl
theorem x12_0 (l1 l2 : Value) (l0 : Int32) (H : HS) : rn 12 0 [.int l0, l1, l2] [] H = rn 12 1 [.int l0, l1, l2] [.int l0] H := rn_nx rfl
theorem x12_1 (l0 l2 : Value) (l1 : Int32) (s0 : Int32) (H : HS) : rn 12 1 [l0, .int l1, l2] [.int s0] H = rn 12 2 [l0, .int l1, l2] [.int l1, .int s0] H := rn_nx rfl
theorem x12_2 (l0 l1 l2 : Value) (s0 : Int32) (s1 : Int32) (H : HS) : rn 12 2 [l0, l1, l2] [.int s0, .int s1] H = if s0 = 0 then none else rn 12 3 [l0, l1, l2] [.int (s1 - s1 / s0 * s0)] H := (rn_ev ..).trans (ev_if rfl)
theorem x12_3 (l0 l1 l2 : Value) (s0 : Int32) (H : HS) : rn 12 3 [l0, l1, l2] [.int s0] H = rn 12 4 [l0, (kl l1), .int s0] [] H := rn_nx rfl
theorem x12_4 (l1 l2 : Value) (l0 : Int32) (H : HS) : rn 12 4 [.int l0, l1, l2] [] H = rn 12 5 [.int l0, l1, l2] [.int l0] H := rn_nx rfl
theorem x12_5 (l0 l2 : Value) (l1 : Int32) (s0 : Int32) (H : HS) : rn 12 5 [l0, .int l1, l2] [.int s0] H = rn 12 6 [l0, .int l1, l2] [.int l1, .int s0] H := rn_nx rfl
theorem x12_6 (l0 l1 l2 : Value) (s0 : Int32) (s1 : Int32) (H : HS) : rn 12 6 [l0, l1, l2] [.int s0, .int s1] H = rn 12 7 [l0, l1, l2] [.int (s1 ^^^ s0)] H := rn_nx rfl
theorem x12_7 (l0 l1 l2 : Value) (s0 : Int32) (H : HS) : rn 12 7 [l0, l1, l2] [.int s0] H = if s0 < 0 then rn 12 10 [l0, l1, l2] [] H else rn 12 18 [l0, l1, l2] [] H := (rn_ev ..).trans (ev_bin rfl)
theorem x12_10 (l0 l1 : Value) (l2 : Int32) (H : HS) : rn 12 10 [l0, l1, .int l2] [] H = rn 12 11 [l0, l1, .int l2] [.int l2] H := rn_nx rfl
theorem x12_11 (l0 l1 l2 : Value) (s0 : Int32) (H : HS) : rn 12 11 [l0, l1, l2] [.int s0] H = if s0 = 0 then rn 12 18 [l0, l1, l2] [] H else rn 12 14 [l0, l1, l2] [] H := (rn_ev ..).trans (ev_bif rfl)
theorem x12_14 (l0 l1 : Value) (l2 : Int32) (H : HS) : rn 12 14 [l0, l1, .int l2] [] H = rn 12 15 [l0, l1, .int l2] [.int l2] H := rn_nx rfl
theorem x12_15 (l0 l2 : Value) (l1 : Int32) (s0 : Int32) (H : HS) : rn 12 15 [l0, .int l1, l2] [.int s0] H = rn 12 16 [l0, .int l1, l2] [.int l1, .int s0] H := rn_nx rfl
theorem x12_16 (l0 l1 l2 : Value) (s0 : Int32) (s1 : Int32) (H : HS) : rn 12 16 [l0, l1, l2] [.int s0, .int s1] H = rn 12 17 [l0, l1, l2] [.int (s1 + s0)] H := rn_nx rfl
theorem x12_17 (l0 l1 l2 : Value) (s0 : Int32) (H : HS) : rn 12 17 [l0, l1, l2] [.int s0] H = some (.inl (some (.int s0)), H) := rn_end rfl
theorem x12_18 (l0 l1 : Value) (l2 : Int32) (H : HS) : rn 12 18 [l0, l1, .int l2] [] H = rn 12 19 [l0, l1, .int l2] [.int l2] H := rn_nx rfl
theorem x12_19 (l0 l1 l2 : Value) (s0 : Int32) (H : HS) : rn 12 19 [l0, l1, l2] [.int s0] H = some (.inl (some (.int s0)), H) := rn_end rfl
theorem c12 (a0 : Int32) (a1 : Int32) (H : HS) : rcal 12 [.int a0, .int a1] H = rn 12 0 [.int a0, .int a1, un] [] H := rfl
theorem x13_0 (l0 : Nat) (H : HS) : rn 13 0 [.ref l0] [] H = rn 13 1 [.ref l0] [.ref l0] H := rn_nx rfl
theorem x13_1 (l0 : Value) (s0 : Nat) (H : HS) : rn 13 1 [l0] [.ref s0] H = gk 13 4 [l0] [] H (gfd H 7 0 s0) := (rn_ev ..).trans (ev_gk rfl)
theorem x13_4 (l0 : Value) (s0 : Nat) (H : HS) : rn 13 4 [l0] [.ref s0] H = gk 13 5 [l0] [] H (alen H s0) := (rn_ev ..).trans (ev_gk rfl)
theorem x13_5 (l0 : Nat) (s0 : Int32) (H : HS) : rn 13 5 [.ref l0] [.int s0] H = rn 13 6 [.ref l0] [.ref l0, .int s0] H := rn_nx rfl
theorem x13_6 (l0 : Value) (s0 : Nat) (s1 : Int32) (H : HS) (h : recv H s0 7 = true) : rn 13 6 [l0] [.ref s0, .int s1] H = bnd true 13 6 [l0] [.int s1] (rcal 15 [.ref s0] H) := rn_cal (vcal h rfl)
theorem x13_9 (l0 : Value) (s0 : Int32) (s1 : Int32) (H : HS) : rn 13 9 [l0] [.int s0, .int s1] H = rn 13 10 [l0] [.int (s1 >>> (s0 &&& 31))] H := rn_nx rfl
theorem x13_10 (l0 : Value) (s0 : Int32) (H : HS) : rn 13 10 [l0] [.int s0] H = some (.inl (some (.int s0)), H) := rn_end rfl
theorem c13 (a0 : Nat) (H : HS) : rcal 13 [.ref a0] H = rn 13 0 [.ref a0] [] H := rfl
theorem x14_0 (l1 : Value) (l0 : Nat) (H : HS) : rn 14 0 [.ref l0, l1] [] H = rn 14 1 [.ref l0, l1] [.ref l0] H := rn_nx rfl
theorem x14_1 (l0 l1 : Value) (s0 : Nat) (H : HS) (h : recv H s0 7 = true) : rn 14 1 [l0, l1] [.ref s0] H = bnd true 14 1 [l0, l1] [] (rcal 16 [.ref s0] H) := rn_cal (vcal h rfl)
theorem x14_4 (l0 l1 : Value) (s0 : Int32) (H : HS) : rn 14 4 [l0, l1] [.int s0] H = if s0 = 0 then rn 14 16 [l0, l1] [] H else rn 14 7 [l0, l1] [] H := (rn_ev ..).trans (ev_bif rfl)
theorem x14_7 (l1 : Value) (l0 : Nat) (H : HS) : rn 14 7 [.ref l0, l1] [] H = rn 14 8 [.ref l0, l1] [.ref l0] H := rn_nx rfl
theorem x14_8 (l0 l1 : Value) (s0 : Nat) (H : HS) : rn 14 8 [l0, l1] [.ref s0] H = gk 14 11 [l0, l1] [] H (gfd H 7 0 s0) := (rn_ev ..).trans (ev_gk rfl)
theorem x14_11 (l0 : Value) (l1 : Int32) (s0 : Nat) (H : HS) : rn 14 11 [l0, .int l1] [.ref s0] H = rn 14 12 [l0, .int l1] [.int l1, .ref s0] H := rn_nx rfl
theorem x14_12 (l0 l1 : Value) (s0 : Int32) (s1 : Nat) (H : HS) : rn 14 12 [l0, l1] [.int s0, .ref s1] H = bnd true 14 12 [l0, l1] [] (rcal 24 [.ref s1, .int s0] H) := rn_cal rfl
theorem x14_15 (l0 l1 : Value) (s0 : Int32) (H : HS) : rn 14 15 [l0, l1] [.int s0] H = if fitp 3 (.int s0) = true then some (.inl (some (.int s0)), H) else none := (rn_ev ..).trans (ev_ret rfl)
theorem x14_16 (l1 : Value) (l0 : Nat) (H : HS) : rn 14 16 [.ref l0, l1] [] H = rn 14 17 [.ref l0, l1] [.ref l0] H := rn_nx rfl
theorem x14_17 (l0 l1 : Value) (s0 : Nat) (H : HS) : rn 14 17 [l0, l1] [.ref s0] H = gk 14 20 [l0, l1] [] H (gfd H 7 0 s0) := (rn_ev ..).trans (ev_gk rfl)
theorem x14_20 (l0 : Value) (l1 : Int32) (s0 : Nat) (H : HS) : rn 14 20 [l0, .int l1] [.ref s0] H = rn 14 21 [l0, .int l1] [.int l1, .ref s0] H := rn_nx rfl
theorem c14 (a0 : Nat) (a1 : Int32) (H : HS) : rcal 14 [.ref a0, .int a1] H = rn 14 0 [.ref a0, .int a1] [] H := rfl
theorem x15_0 (l0 : Value) (H : HS) : rn 15 0 [l0] [] H = rn 15 3 [l0] [.int 1] H := rn_nx rfl
theorem x15_3 (l0 : Value) (s0 : Int32) (H : HS) : rn 15 3 [l0] [.int s0] H = if s0 = 0 then rn 15 13 [l0] [] H else rn 15 6 [l0] [] H := (rn_ev ..).trans (ev_bif rfl)
theorem x15_6 (l0 : Nat) (H : HS) : rn 15 6 [.ref l0] [] H = rn 15 7 [.ref l0] [.ref l0] H := rn_nx rfl
theorem x15_7 (l0 : Value) (s0 : Nat) (H : HS) : rn 15 7 [l0] [.ref s0] H = gk 15 10 [l0] [] H (gfd H 7 1 s0) := (rn_ev ..).trans (ev_gk rfl)
theorem x15_10 (l0 : Value) (s0 : Int32) (H : HS) : rn 15 10 [l0] [.int s0] H = rn 15 14 [l0] [.int s0] H := rn_nx rfl
theorem x15_14 (l0 : Value) (s0 : Int32) (H : HS) : rn 15 14 [l0] [.int s0] H = if fitp 2 (.int s0) = true then some (.inl (some (.int s0)), H) else none := (rn_ev ..).trans (ev_ret rfl)
theorem x15_13 (l0 : Value) (H : HS) : rn 15 13 [l0] [] H = rn 15 14 [l0] [.int 1] H := rn_nx rfl
theorem c15 (a0 : Nat) (H : HS) : rcal 15 [.ref a0] H = rn 15 0 [.ref a0] [] H := rfl
theorem x16_0 (l0 : Value) (H : HS) : rn 16 0 [l0] [] H = rn 16 3 [l0] [.int 1] H := rn_nx rfl
theorem x16_3 (l0 : Value) (s0 : Int32) (H : HS) : rn 16 3 [l0] [.int s0] H = if s0 = 0 then rn 16 17 [l0] [] H else rn 16 6 [l0] [] H := (rn_ev ..).trans (ev_bif rfl)
theorem x16_6 (l0 : Nat) (H : HS) : rn 16 6 [.ref l0] [] H = rn 16 7 [.ref l0] [.ref l0] H := rn_nx rfl
theorem x16_7 (l0 : Value) (s0 : Nat) (H : HS) : rn 16 7 [l0] [.ref s0] H = gk 16 10 [l0] [] H (gfd H 7 1 s0) := (rn_ev ..).trans (ev_gk rfl)
theorem x16_10 (l0 : Value) (s0 : Int32) (H : HS) : rn 16 10 [l0] [.int s0] H = if s0 = 0 then rn 16 13 [l0] [] H else rn 16 17 [l0] [] H := (rn_ev ..).trans (ev_bin rfl)
theorem x16_13 (l0 : Value) (H : HS) : rn 16 13 [l0] [] H = rn 16 14 [l0] [.int 1] H := rn_nx rfl
theorem x16_14 (l0 : Value) (s0 : Int32) (H : HS) : rn 16 14 [l0] [.int s0] H = rn 16 18 [l0] [.int s0] H := rn_nx rfl
theorem x16_18 (l0 : Value) (s0 : Int32) (H : HS) : rn 16 18 [l0] [.int s0] H = if fitp 1 (.int s0) = true then some (.inl (some (.int s0)), H) else none := (rn_ev ..).trans (ev_ret rfl)
theorem x16_17 (l0 : Value) (H : HS) : rn 16 17 [l0] [] H = rn 16 18 [l0] [.int 0] H := rn_nx rfl
theorem c16 (a0 : Nat) (H : HS) : rcal 16 [.ref a0] H = rn 16 0 [.ref a0] [] H := rfl
theorem x17_0 (l1 : Value) (l0 : Int32) (H : HS) : rn 17 0 [.int l0, l1] [] H = rn 17 1 [.int l0, l1] [.int l0] H := rn_nx rfl
theorem x17_1 (l0 : Value) (l1 : Int32) (s0 : Int32) (H : HS) : rn 17 1 [l0, .int l1] [.int s0] H = rn 17 2 [l0, .int l1] [.int l1, .int s0] H := rn_nx rfl
theorem x17_2 (l0 l1 : Value) (s0 : Int32) (s1 : Int32) (H : HS) : rn 17 2 [l0, l1] [.int s0, .int s1] H = rn 17 5 [l0, l1] [.retAddr 1, .int s0, .int s1] H := rn_nx rfl
theorem x17_5 (l0 l1 : Value) (s1 : Int32) (s2 : Int32) (H : HS) : rn 17 5 [l0, l1] [.retAddr 1, .int s1, .int s2] H = bnd true 17 5 [l0, l1] [] (rcal 27 [.int s2, .int s1, .retAddr 1] H) := rn_cal rfl
theorem x17_8 (l0 l1 : Value) (s0 : Int32) (H : HS) : rn 17 8 [l0, l1] [.int s0] H = rn 17 9 [l0, l1] [] H := rn_nx rfl
theorem x17_9 (l0 l1 : Value) (H : HS) : rn 17 9 [l0, l1] [] H = some (.inl none, H) := rn_end rfl
theorem c17 (a0 : Int32) (a1 : Int32) (H : HS) : rcal 17 [.int a0, .int a1] H = rn 17 0 [.int a0, .int a1] [] H := rfl
theorem x18_0 (l0 : Nat) (H : HS) : rn 18 0 [.ref l0] [] H = rn 18 1 [.ref l0] [.ref l0] H := rn_nx rfl
theorem x18_1 (l0 : Value) (s0 : Nat) (H : HS) : rn 18 1 [l0] [.ref s0] H = rn 18 3 [l0] [.int 16, .ref s0] H := rn_nx rfl
theorem x18_3 (l0 : Value) (s0 : Int32) (s1 : Nat) (H : HS) : rn 18 3 [l0] [.int s0, .ref s1] H = bnd false 18 3 [l0] [] (rcal 0 [.ref s1, .int s0] H) := rn_cal rfl
theorem x18_6 (l0 : Value) (H : HS) : rn 18 6 [l0] [] H = some (.inl none, H) := rn_end rfl
theorem c18 (a0 : Nat) (H : HS) : rcal 18 [.ref a0] H = rn 18 0 [.ref a0] [] H := rfl
theorem x19_0 (l1 : Value) (l0 : Nat) (H : HS) : rn 19 0 [.ref l0, l1] [] H = rn 19 1 [.ref l0, l1] [.ref l0] H := rn_nx rfl
theorem x19_1 (l0 : Value) (l1 : Int32) (s0 : Nat) (H : HS) : rn 19 1 [l0, .int l1] [.ref s0] H = rn 19 2 [l0, .int l1] [.int l1, .ref s0] H := rn_nx rfl
theorem x19_2 (l0 l1 : Value) (s0 : Int32) (s1 : Nat) (H : HS) (h : recv H s1 6 = true) : rn 19 2 [l0, l1] [.int s0, .ref s1] H = bnd false 19 2 [l0, l1] [] (rcal 5 [.ref s1, .int s0] H) := rn_cal (vcal4 h rfl)
theorem x19_5 (l0 l1 : Value) (s0 : Nat) (H : HS) : rn 19 5 [l0, l1] [.ref s0] H = rn 19 6 [l0, l1] [] H := rn_nx rfl
theorem x19_6 (l1 : Value) (l0 : Nat) (H : HS) : rn 19 6 [.ref l0, l1] [] H = rn 19 7 [.ref l0, l1] [.ref l0] H := rn_nx rfl
theorem x19_7 (l0 l1 : Value) (s0 : Nat) (H : HS) : rn 19 7 [l0, l1] [.ref s0] H = some (.inl (some (.ref s0)), H) := rn_end rfl
theorem c19 (a0 : Nat) (a1 : Int32) (H : HS) : rcal 19 [.ref a0, .int a1] H = rn 19 0 [.ref a0, .int a1] [] H := rfl
theorem x20_0 (l1 : Value) (l0 : Nat) (H : HS) : rn 20 0 [.ref l0, l1] [] H = rn 20 1 [.ref l0, l1] [.ref l0] H := rn_nx rfl
theorem x20_1 (l0 : Value) (l1 : Int32) (s0 : Nat) (H : HS) : rn 20 1 [l0, .int l1] [.ref s0] H = rn 20 2 [l0, .int l1] [.int l1, .ref s0] H := rn_nx rfl
theorem x20_2 (l0 l1 : Value) (s0 : Int32) (s1 : Nat) (H : HS) (h : recv H s1 6 = true) : rn 20 2 [l0, l1] [.int s0, .ref s1] H = bnd false 20 2 [l0, l1] [] (rcal 6 [.ref s1, .int s0] H) := rn_cal (vcal4 h rfl)
theorem x20_5 (l0 l1 : Value) (s0 : Nat) (H : HS) : rn 20 5 [l0, l1] [.ref s0] H = rn 20 6 [l0, l1] [] H := rn_nx rfl
theorem x20_6 (l1 : Value) (l0 : Nat) (H : HS) : rn 20 6 [.ref l0, l1] [] H = rn 20 7 [.ref l0, l1] [.ref l0] H := rn_nx rfl
theorem x20_7 (l0 l1 : Value) (s0 : Nat) (H : HS) : rn 20 7 [l0, l1] [.ref s0] H = some (.inl (some (.ref s0)), H) := rn_end rfl
theorem c20 (a0 : Nat) (a1 : Int32) (H : HS) : rcal 20 [.ref a0, .int a1] H = rn 20 0 [.ref a0, .int a1] [] H := rfl
theorem x21_0 (l1 : Value) (l0 : Nat) (H : HS) : rn 21 0 [.ref l0, l1] [] H = rn 21 1 [.ref l0, l1] [.ref l0] H := rn_nx rfl
theorem x21_1 (l0 : Value) (l1 : Int32) (s0 : Nat) (H : HS) : rn 21 1 [l0, .int l1] [.ref s0] H = rn 21 2 [l0, .int l1] [.int l1, .ref s0] H := rn_nx rfl
theorem x21_2 (l0 l1 : Value) (s0 : Int32) (s1 : Nat) (H : HS) (h : recv H s1 6 = true) : rn 21 2 [l0, l1] [.int s0, .ref s1] H = bnd false 21 2 [l0, l1] [] (rcal 4 [.ref s1, .int s0] H) := rn_cal (vcal4 h rfl)
theorem x21_5 (l0 l1 : Value) (s0 : Int32) (H : HS) : rn 21 5 [l0, l1] [.int s0] H = if fitp 3 (.int s0) = true then some (.inl (some (.int s0)), H) else none := (rn_ev ..).trans (ev_ret rfl)
theorem c21 (a0 : Nat) (a1 : Int32) (H : HS) : rcal 21 [.ref a0, .int a1] H = rn 21 0 [.ref a0, .int a1] [] H := rfl
theorem x22_0 (l1 : Value) (l0 : Nat) (H : HS) : rn 22 0 [.ref l0, l1] [] H = rn 22 1 [.ref l0, l1] [.ref l0] H := rn_nx rfl
theorem x22_1 (l0 : Value) (l1 : Int32) (s0 : Nat) (H : HS) : rn 22 1 [l0, .int l1] [.ref s0] H = rn 22 2 [l0, .int l1] [.int l1, .ref s0] H := rn_nx rfl
theorem x22_2 (l0 l1 : Value) (s0 : Int32) (s1 : Nat) (H : HS) (h : recv H s1 6 = true) : rn 22 2 [l0, l1] [.int s0, .ref s1] H = bnd false 22 2 [l0, l1] [] (rcal 3 [.ref s1, .int s0] H) := rn_cal (vcal4 h rfl)
theorem x22_5 (l0 l1 : Value) (H : HS) : rn 22 5 [l0, l1] [] H = some (.inl none, H) := rn_end rfl
theorem c22 (a0 : Nat) (a1 : Int32) (H : HS) : rcal 22 [.ref a0, .int a1] H = rn 22 0 [.ref a0, .int a1] [] H := rfl
theorem x23_0 (l0 : Nat) (H : HS) : rn 23 0 [.ref l0] [] H = rn 23 1 [.ref l0] [.ref l0] H := rn_nx rfl
theorem x23_1 (l0 : Value) (s0 : Nat) (H : HS) (h : recv H s0 6 = true) : rn 23 1 [l0] [.ref s0] H = bnd false 23 1 [l0] [] (rcal 8 [.ref s0] H) := rn_cal (vcal4 h rfl)
theorem x23_4 (l0 : Value) (s0 : Int32) (H : HS) : rn 23 4 [l0] [.int s0] H = some (.inl (some (.int s0)), H) := rn_end rfl
theorem c23 (a0 : Nat) (H : HS) : rcal 23 [.ref a0] H = rn 23 0 [.ref a0] [] H := rfl
theorem x24_0 (l0 : Value) (l1 : Int32) (H : HS) : rn 24 0 [l0, .int l1] [] H = rn 24 1 [l0, .int l1] [.int l1] H := rn_nx rfl
theorem x24_1 (l1 : Value) (l0 : Nat) (s0 : Int32) (H : HS) : rn 24 1 [.ref l0, l1] [.int s0] H = rn 24 2 [.ref l0, l1] [.ref l0, .int s0] H := rn_nx rfl
theorem x24_2 (l0 l1 : Value) (s0 : Nat) (s1 : Int32) (H : HS) : rn 24 2 [l0, l1] [.ref s0, .int s1] H = gk 24 3 [l0, l1] [.int s1] H (alen H s0) := (rn_ev ..).trans (ev_gk rfl)
theorem x24_3 (l0 l1 : Value) (s0 : Int32) (s1 : Int32) (H : HS) : rn 24 3 [l0, l1] [.int s0, .int s1] H = bnd true 24 3 [l0, l1] [] (rcal 17 [.int s1, .int s0] H) := rn_cal rfl
theorem x24_6 (l1 : Value) (l0 : Nat) (H : HS) : rn 24 6 [.ref l0, l1] [] H = rn 24 7 [.ref l0, l1] [.ref l0] H := rn_nx rfl
theorem x24_7 (l0 : Value) (l1 : Int32) (s0 : Nat) (H : HS) : rn 24 7 [l0, .int l1] [.ref s0] H = rn 24 8 [l0, .int l1] [.int l1, .ref s0] H := rn_nx rfl
theorem x24_8 (l0 l1 : Value) (s0 : Int32) (s1 : Nat) (H : HS) : rn 24 8 [l0, l1] [.int s0, .ref s1] H = gk 24 9 [l0, l1] [] H (ald H 102 s1 s0) := (rn_ev ..).trans (ev_gk rfl)
theorem x24_9 (l0 l1 : Value) (s0 : Int32) (H : HS) : rn 24 9 [l0, l1] [.int s0] H = rn 24 12 [l0, l1] [.int 255, .int s0] H := rn_nx rfl
theorem x24_12 (l0 l1 : Value) (s0 : Int32) (s1 : Int32) (H : HS) : rn 24 12 [l0, l1] [.int s0, .int s1] H = rn 24 13 [l0, l1] [.int (s1 &&& s0)] H := rn_nx rfl
theorem x24_13 (l0 l1 : Value) (s0 : Int32) (H : HS) : rn 24 13 [l0, l1] [.int s0] H = rn 24 14 [l0, l1] [.int (s0.toUInt32 % 65536).toInt32] H := rn_nx rfl
theorem x24_14 (l0 l1 : Value) (s0 : Int32) (H : HS) : rn 24 14 [l0, l1] [.int s0] H = if fitp 3 (.int s0) = true then some (.inl (some (.int s0)), H) else none := (rn_ev ..).trans (ev_ret rfl)
theorem c24 (a0 : Nat) (a1 : Int32) (H : HS) : rcal 24 [.ref a0, .int a1] H = rn 24 0 [.ref a0, .int a1] [] H := rfl
theorem x25_0 (l0 : Int32) (H : HS) : rn 25 0 [.int l0] [] H = rn 25 1 [.int l0] [.int l0] H := rn_nx rfl
theorem x25_1 (l0 : Value) (s0 : Int32) (H : HS) : rn 25 1 [l0] [.int s0] H = rn 25 4 [l0] [.int 255, .int s0] H := rn_nx rfl
theorem x25_4 (l0 : Value) (s0 : Int32) (s1 : Int32) (H : HS) : rn 25 4 [l0] [.int s0, .int s1] H = if s0 < s1 then rn 25 11 [l0] [] H else rn 25 7 [l0] [] H := (rn_ev ..).trans (ev_bif rfl)
theorem x25_7 (l0 : Value) (H : HS) : rn 25 7 [l0] [] H = rn 25 8 [l0] [.int 1] H := rn_nx rfl
theorem x25_8 (l0 : Value) (s0 : Int32) (H : HS) : rn 25 8 [l0] [.int s0] H = rn 25 12 [l0] [.int s0] H := rn_nx rfl
theorem x25_12 (l0 : Value) (s0 : Int32) (H : HS) : rn 25 12 [l0] [.int s0] H = if fitp 1 (.int s0) = true then some (.inl (some (.int s0)), H) else none := (rn_ev ..).trans (ev_ret rfl)
theorem x25_11 (l0 : Value) (H : HS) : rn 25 11 [l0] [] H = rn 25 12 [l0] [.int 0] H := rn_nx rfl
theorem c25 (a0 : Int32) (H : HS) : rcal 25 [.int a0] H = rn 25 0 [.int a0] [] H := rfl
theorem x26_0 (l0 l2 : Value) (l1 : Int32) (H : HS) : rn 26 0 [l0, .int l1, l2] [] H = rn 26 1 [l0, .int l1, l2] [.int l1] H := rn_nx rfl
theorem x26_1 (l1 l2 : Value) (l0 : Nat) (s0 : Int32) (H : HS) : rn 26 1 [.ref l0, l1, l2] [.int s0] H = rn 26 2 [.ref l0, l1, l2] [.ref l0, .int s0] H := rn_nx rfl
theorem x26_2 (l0 l1 l2 : Value) (s0 : Nat) (s1 : Int32) (H : HS) : rn 26 2 [l0, l1, l2] [.ref s0, .int s1] H = gk 26 3 [l0, l1, l2] [.int s1] H (alen H s0) := (rn_ev ..).trans (ev_gk rfl)
theorem x26_3 (l0 l1 l2 : Value) (s0 : Int32) (s1 : Int32) (H : HS) : rn 26 3 [l0, l1, l2] [.int s0, .int s1] H = if s1 = s0 then rn 26 6 [l0, l1, l2] [] H else rn 26 14 [l0, l1, l2] [] H := (rn_ev ..).trans (ev_bin rfl)
theorem x26_6 (l1 l2 : Value) (l0 : Nat) (H : HS) : rn 26 6 [.ref l0, l1, l2] [] H = rn 26 7 [.ref l0, l1, l2] [.ref l0] H := rn_nx rfl
theorem x26_14 (l0 l2 : Value) (l1 : Int32) (H : HS) : rn 26 14 [l0, .int l1, l2] [] H = rn 26 15 [l0, .int l1, l2] [.int l1] H := rn_nx rfl
theorem x26_15 (l0 l1 l2 : Value) (s0 : Int32) (H : HS) : rn 26 15 [l0, l1, l2] [.int s0] H = if s0 < 0 ∨ 100000 < s0.toNatClampNeg then none else rn 26 17 [l0, l1, l2] [.ref H.2.1] (hsn H (102, List.replicate s0.toNatClampNeg (.int 0)) s0.toNatClampNeg) := (rn_ev ..).trans (ev_if rfl)
theorem x26_17 (l0 l1 l2 : Value) (s0 : Nat) (H : HS) : rn 26 17 [l0, l1, l2] [.ref s0] H = rn 26 18 [l0, (kl l1), .ref s0] [] H := rn_nx rfl
theorem x26_18 (l1 l2 : Value) (l0 : Nat) (H : HS) : rn 26 18 [.ref l0, l1, l2] [] H = rn 26 19 [.ref l0, l1, l2] [.ref l0] H := rn_nx rfl
theorem x26_19 (l0 l1 l2 : Value) (s0 : Nat) (H : HS) : rn 26 19 [l0, l1, l2] [.ref s0] H = rn 26 20 [l0, l1, l2] [.int 0, .ref s0] H := rn_nx rfl
theorem x26_20 (l0 l1 : Value) (l2 : Nat) (s0 : Int32) (s1 : Nat) (H : HS) : rn 26 20 [l0, l1, .ref l2] [.int s0, .ref s1] H = rn 26 21 [l0, l1, .ref l2] [.ref l2, .int s0, .ref s1] H := rn_nx rfl
theorem x26_21 (l0 l1 l2 : Value) (s0 : Nat) (s1 : Int32) (s2 : Nat) (H : HS) : rn 26 21 [l0, l1, l2] [.ref s0, .int s1, .ref s2] H = rn 26 22 [l0, l1, l2] [.int 0, .ref s0, .int s1, .ref s2] H := rn_nx rfl
theorem x26_22 (l1 l2 : Value) (l0 : Nat) (s0 : Int32) (s1 : Nat) (s2 : Int32) (s3 : Nat) (H : HS) : rn 26 22 [.ref l0, l1, l2] [.int s0, .ref s1, .int s2, .ref s3] H = rn 26 23 [.ref l0, l1, l2] [.ref l0, .int s0, .ref s1, .int s2, .ref s3] H := rn_nx rfl
theorem x26_23 (l0 l1 l2 : Value) (s0 : Nat) (s1 : Int32) (s2 : Nat) (s3 : Int32) (s4 : Nat) (H : HS) : rn 26 23 [l0, l1, l2] [.ref s0, .int s1, .ref s2, .int s3, .ref s4] H = gk 26 24 [l0, l1, l2] [.int s1, .ref s2, .int s3, .ref s4] H (alen H s0) := (rn_ev ..).trans (ev_gk rfl)
theorem x26_24 (l0 l2 : Value) (l1 : Int32) (s0 : Int32) (s1 : Int32) (s2 : Nat) (s3 : Int32) (s4 : Nat) (H : HS) : rn 26 24 [l0, .int l1, l2] [.int s0, .int s1, .ref s2, .int s3, .ref s4] H = rn 26 25 [l0, .int l1, l2] [.int l1, .int s0, .int s1, .ref s2, .int s3, .ref s4] H := rn_nx rfl
theorem x26_25 (l0 l1 l2 : Value) (s0 : Int32) (s1 : Int32) (s2 : Int32) (s3 : Nat) (s4 : Int32) (s5 : Nat) (H : HS) : rn 26 25 [l0, l1, l2] [.int s0, .int s1, .int s2, .ref s3, .int s4, .ref s5] H = rn 26 28 [l0, l1, l2] [.int (if s0 < s1 then s0 else s1), .int s2, .ref s3, .int s4, .ref s5] H := rn_nx rfl
theorem x26_28 (l0 l1 l2 : Value) (s0 : Int32) (s1 : Int32) (s2 : Nat) (s3 : Int32) (s4 : Nat) (H : HS) : rn 26 28 [l0, l1, l2] [.int s0, .int s1, .ref s2, .int s3, .ref s4] H = pk 26 31 [l0, l1, l2] [] (acp H s4 s2 s3 s1 s0) := (rn_ev ..).trans (ev_pk rfl)
theorem x26_31 (l0 l1 : Value) (l2 : Nat) (H : HS) : rn 26 31 [l0, l1, .ref l2] [] H = rn 26 32 [l0, l1, .ref l2] [.ref l2] H := rn_nx rfl
theorem x26_32 (l0 l1 l2 : Value) (s0 : Nat) (H : HS) : rn 26 32 [l0, l1, l2] [.ref s0] H = some (.inl (some (.ref s0)), H) := rn_end rfl
theorem c26 (a0 : Nat) (a1 : Int32) (H : HS) : rcal 26 [.ref a0, .int a1] H = rn 26 0 [.ref a0, .int a1, un] [] H := rfl
theorem x27_0 (l1 l2 : Value) (l0 : Int32) (H : HS) : rn 27 0 [.int l0, l1, l2] [] H = rn 27 1 [.int l0, l1, l2] [.int l0] H := rn_nx rfl
theorem x27_1 (l0 l1 l2 : Value) (s0 : Int32) (H : HS) : rn 27 1 [l0, l1, l2] [.int s0] H = if s0 < 0 then rn 27 9 [l0, l1, l2] [] H else rn 27 4 [l0, l1, l2] [] H := (rn_ev ..).trans (ev_bif rfl)
theorem x27_4 (l1 l2 : Value) (l0 : Int32) (H : HS) : rn 27 4 [.int l0, l1, l2] [] H = rn 27 5 [.int l0, l1, l2] [.int l0] H := rn_nx rfl
theorem x27_5 (l0 l2 : Value) (l1 : Int32) (s0 : Int32) (H : HS) : rn 27 5 [l0, .int l1, l2] [.int s0] H = rn 27 6 [l0, .int l1, l2] [.int l1, .int s0] H := rn_nx rfl
theorem x27_6 (l0 l1 l2 : Value) (s0 : Int32) (s1 : Int32) (H : HS) : rn 27 6 [l0, l1, l2] [.int s0, .int s1] H = if s1 < s0 then rn 27 16 [l0, l1, l2] [] H else rn 27 9 [l0, l1, l2] [] H := (rn_ev ..).trans (ev_bif rfl)
theorem x27_9 (l0 l1 : Value) (l2 : Nat) (H : HS) : rn 27 9 [l0, l1, .ref l2] [] H = rn 27 10 [l0, l1, .ref l2] [.ref l2] H := rn_nx rfl
theorem x27_10 (l1 l2 : Value) (l0 : Int32) (s0 : Nat) (H : HS) : rn 27 10 [.int l0, l1, l2] [.ref s0] H = rn 27 11 [.int l0, l1, l2] [.int l0, .ref s0] H := rn_nx rfl
theorem x27_11 (l0 l2 : Value) (l1 : Int32) (s0 : Int32) (s1 : Nat) (H : HS) : rn 27 11 [l0, .int l1, l2] [.int s0, .ref s1] H = rn 27 12 [l0, .int l1, l2] [.int l1, .int s0, .ref s1] H := rn_nx rfl
theorem x27_16 (l1 l2 : Value) (l0 : Int32) (H : HS) : rn 27 16 [.int l0, l1, l2] [] H = rn 27 17 [.int l0, l1, l2] [.int l0] H := rn_nx rfl
theorem x27_17 (l0 l1 l2 : Value) (s0 : Int32) (H : HS) : rn 27 17 [l0, l1, l2] [.int s0] H = some (.inl (some (.int s0)), H) := rn_end rfl
theorem c27 (a0 : Int32) (a1 : Int32) (a2 : Nat) (H : HS) : rcal 27 [.int a0, .int a1, .ref a2] H = rn 27 0 [.int a0, .int a1, .ref a2] [] H := rfl
theorem x28_0 (l1 l2 l3 : Value) (l0 : Int32) (H : HS) : rn 28 0 [.int l0, l1, l2, l3] [] H = rn 28 1 [.int l0, l1, l2, l3] [.int l0] H := rn_nx rfl
theorem x28_1 (l0 l2 l3 : Value) (l1 : Int32) (s0 : Int32) (H : HS) : rn 28 1 [l0, .int l1, l2, l3] [.int s0] H = rn 28 2 [l0, .int l1, l2, l3] [.int l1, .int s0] H := rn_nx rfl
theorem x28_2 (l0 l1 l3 : Value) (l2 : Int32) (s0 : Int32) (s1 : Int32) (H : HS) : rn 28 2 [l0, l1, .int l2, l3] [.int s0, .int s1] H = rn 28 3 [l0, l1, .int l2, l3] [.int l2, .int s0, .int s1] H := rn_nx rfl
theorem x28_3 (l0 l1 l2 l3 : Value) (s0 : Int32) (s1 : Int32) (s2 : Int32) (H : HS) : rn 28 3 [l0, l1, l2, l3] [.int s0, .int s1, .int s2] H = rn 28 6 [l0, l1, l2, l3] [.int (if s1 < s0 then s0 else s1), .int s2] H := rn_nx rfl
theorem x28_6 (l0 l1 l2 l3 : Value) (s0 : Int32) (s1 : Int32) (H : HS) : rn 28 6 [l0, l1, l2, l3] [.int s0, .int s1] H = rn 28 7 [l0, l1, l2, l3] [.int (s1 + s0)] H := rn_nx rfl
theorem x28_7 (l0 l1 l2 l3 : Value) (s0 : Int32) (H : HS) : rn 28 7 [l0, l1, l2, l3] [.int s0] H = rn 28 8 [l0, l1, (kl l2), .int s0] [] H := rn_nx rfl
theorem x28_8 (l0 l1 l2 l3 : Value) (H : HS) : rn 28 8 [l0, l1, l2, l3] [] H = rn 28 9 [l0, l1, l2, l3] [.int 0] H := rn_nx rfl
theorem x28_9 (l0 l1 l2 : Value) (l3 : Int32) (s0 : Int32) (H : HS) : rn 28 9 [l0, l1, l2, .int l3] [.int s0] H = rn 28 10 [l0, l1, l2, .int l3] [.int l3, .int s0] H := rn_nx rfl
theorem x28_10 (l0 l1 l2 l3 : Value) (s0 : Int32) (s1 : Int32) (H : HS) : rn 28 10 [l0, l1, l2, l3] [.int s0, .int s1] H = if s1 < s0 then rn 28 13 [l0, l1, l2, l3] [] H else rn 28 21 [l0, l1, l2, l3] [] H := (rn_ev ..).trans (ev_bin rfl)
theorem x28_13 (l0 l1 l2 : Value) (l3 : Int32) (H : HS) : rn 28 13 [l0, l1, l2, .int l3] [] H = rn 28 14 [l0, l1, l2, .int l3] [.int l3] H := rn_nx rfl
theorem x28_14 (l0 l1 l2 l3 : Value) (s0 : Int32) (H : HS) : rn 28 14 [l0, l1, l2, l3] [.int s0] H = rn 28 16 [l0, l1, l2, l3] [.int 2147483639, .int s0] H := rn_nx rfl
theorem x28_16 (l0 l1 l2 l3 : Value) (s0 : Int32) (s1 : Int32) (H : HS) : rn 28 16 [l0, l1, l2, l3] [.int s0, .int s1] H = if s0 < s1 then rn 28 21 [l0, l1, l2, l3] [] H else rn 28 19 [l0, l1, l2, l3] [] H := (rn_ev ..).trans (ev_bif rfl)
theorem x28_19 (l0 l1 l2 : Value) (l3 : Int32) (H : HS) : rn 28 19 [l0, l1, l2, .int l3] [] H = rn 28 20 [l0, l1, l2, .int l3] [.int l3] H := rn_nx rfl
theorem x28_20 (l0 l1 l2 l3 : Value) (s0 : Int32) (H : HS) : rn 28 20 [l0, l1, l2, l3] [.int s0] H = some (.inl (some (.int s0)), H) := rn_end rfl
theorem x28_21 (l1 l2 l3 : Value) (l0 : Int32) (H : HS) : rn 28 21 [.int l0, l1, l2, l3] [] H = rn 28 22 [.int l0, l1, l2, l3] [.int l0] H := rn_nx rfl
theorem x28_22 (l0 l2 l3 : Value) (l1 : Int32) (s0 : Int32) (H : HS) : rn 28 22 [l0, .int l1, l2, l3] [.int s0] H = rn 28 23 [l0, .int l1, l2, l3] [.int l1, .int s0] H := rn_nx rfl
theorem c28 (a0 : Int32) (a1 : Int32) (a2 : Int32) (H : HS) : rcal 28 [.int a0, .int a1, .int a2] H = rn 28 0 [.int a0, .int a1, .int a2, un] [] H := rfl
theorem x29_0 (l1 : Value) (l0 : Nat) (H : HS) : rn 29 0 [.ref l0, l1] [] H = rn 29 1 [.ref l0, l1] [.ref l0] H := rn_nx rfl
theorem x29_1 (l0 l1 : Value) (s0 : Nat) (H : HS) : rn 29 1 [l0, l1] [.ref s0] H = rn 29 4 [l0, l1] [] H := rn_nx rfl
theorem x29_4 (l1 : Value) (l0 : Nat) (H : HS) : rn 29 4 [.ref l0, l1] [] H = rn 29 5 [.ref l0, l1] [.ref l0] H := rn_nx rfl
theorem x29_5 (l0 l1 : Value) (s0 : Nat) (H : HS) : rn 29 5 [l0, l1] [.ref s0] H = rn 29 7 [l0, l1] [.int 9, .ref s0] H := rn_nx rfl
theorem x29_7 (l0 l1 : Value) (s0 : Int32) (s1 : Nat) (H : HS) : rn 29 7 [l0, l1] [.int s0, .ref s1] H = if s0 < 0 ∨ 100000 < s0.toNatClampNeg then none else rn 29 10 [l0, l1] [.ref H.2.1, .ref s1] (hsn H (106, List.replicate s0.toNatClampNeg .null) s0.toNatClampNeg) := (rn_ev ..).trans (ev_if rfl)
theorem x29_10 (l0 l1 : Value) (s0 : Nat) (s1 : Nat) (H : HS) : rn 29 10 [l0, l1] [.ref s0, .ref s1] H = pk 29 13 [l0, l1] [] (pfd H true 3 0 s1 (.ref s0)) := (rn_ev ..).trans (ev_pk rfl)
theorem x29_13 (l0 l1 : Value) (H : HS) : rn 29 13 [l0, l1] [] H = rn 29 14 [l0, l1] [.int 0] H := rn_nx rfl
theorem x29_14 (l0 l1 : Value) (s0 : Int32) (H : HS) : rn 29 14 [l0, l1] [.int s0] H = rn 29 15 [(kl l0), .int s0] [] H := rn_nx rfl
theorem x29_15 (l0 : Value) (l1 : Int32) (H : HS) : rn 29 15 [l0, .int l1] [] H = rn 29 16 [l0, .int l1] [.int l1] H := rn_nx rfl
theorem x29_16 (l0 l1 : Value) (s0 : Int32) (H : HS) : rn 29 16 [l0, l1] [.int s0] H = rn 29 18 [l0, l1] [.int 8, .int s0] H := rn_nx rfl
theorem x29_18 (l0 l1 : Value) (s0 : Int32) (s1 : Int32) (H : HS) : rn 29 18 [l0, l1] [.int s0, .int s1] H = if s0 < s1 then rn 29 40 [l0, l1] [] H else rn 29 21 [l0, l1] [] H := (rn_ev ..).trans (ev_bif rfl)
theorem x29_21 (l1 : Value) (l0 : Nat) (H : HS) : rn 29 21 [.ref l0, l1] [] H = rn 29 22 [.ref l0, l1] [.ref l0] H := rn_nx rfl
theorem x29_22 (l0 l1 : Value) (s0 : Nat) (H : HS) : rn 29 22 [l0, l1] [.ref s0] H = gk 29 25 [l0, l1] [] H (gfd H 3 0 s0) := (rn_ev ..).trans (ev_gk rfl)
theorem x29_25 (l0 : Value) (l1 : Int32) (s0 : Nat) (H : HS) : rn 29 25 [l0, .int l1] [.ref s0] H = rn 29 26 [l0, .int l1] [.int l1, .ref s0] H := rn_nx rfl
theorem x29_26 (l0 l1 : Value) (s0 : Int32) (s1 : Nat) (H : HS) : rn 29 26 [l0, l1] [.int s0, .ref s1] H = rn 29 29 [l0, l1] [.ref H.2.1, .int s0, .ref s1] (hsn H (1, dF 1) 13) := rn_nx rfl
theorem x29_29 (l0 l1 : Value) (s0 : Nat) (s1 : Int32) (s2 : Nat) (H : HS) : rn 29 29 [l0, l1] [.ref s0, .int s1, .ref s2] H = rn 29 30 [l0, l1] [.ref s0, .ref s0, .int s1, .ref s2] H := rn_nx rfl
theorem x29_30 (l0 l1 : Value) (s0 : Nat) (s1 : Nat) (s2 : Int32) (s3 : Nat) (H : HS) : rn 29 30 [l0, l1] [.ref s0, .ref s1, .int s2, .ref s3] H = bnd false 29 30 [l0, l1] [.ref s1, .int s2, .ref s3] (rcal 34 [.ref s0] H) := rn_cal rfl
theorem x29_33 (l0 l1 : Value) (s0 : Nat) (s1 : Int32) (s2 : Nat) (H : HS) : rn 29 33 [l0, l1] [.ref s0, .int s1, .ref s2] H = pk 29 34 [l0, l1] [] (aast H s2 s1 s0) := (rn_ev ..).trans (ev_pk rfl)
theorem x29_34 (l0 : Value) (l1 : Int32) (H : HS) : rn 29 34 [l0, .int l1] [] H = rn 29 37 [(kl l0), .int (l1 + 1)] [] H := rn_nx rfl
theorem x29_37 (l0 l1 : Value) (H : HS) : rn 29 37 [l0, l1] [] H = rn 29 15 [l0, l1] [] H := rn_nx rfl
theorem x29_40 (l0 l1 : Value) (H : HS) : rn 29 40 [l0, l1] [] H = some (.inl none, H) := rn_end rfl
theorem c29 (a0 : Nat) (H : HS) : rcal 29 [.ref a0] H = rn 29 0 [.ref a0, un] [] H := rfl
theorem x30_0 (l1 : Value) (l0 : Nat) (H : HS) : rn 30 0 [.ref l0, l1] [] H = rn 30 1 [.ref l0, l1] [.ref l0] H := rn_nx rfl
theorem x30_1 (l0 l1 : Value) (s0 : Nat) (H : HS) : rn 30 1 [l0, l1] [.ref s0] H = gk 30 4 [l0, l1] [] H (gfd H 3 0 s0) := (rn_ev ..).trans (ev_gk rfl)
theorem x30_4 (l1 : Value) (l0 : Nat) (s0 : Nat) (H : HS) : rn 30 4 [.ref l0, l1] [.ref s0] H = rn 30 5 [.ref l0, l1] [.ref l0, .ref s0] H := rn_nx rfl
theorem x30_5 (l0 l1 : Value) (s0 : Nat) (s1 : Nat) (H : HS) : rn 30 5 [l0, l1] [.ref s0, .ref s1] H = gk 30 8 [l0, l1] [.ref s1] H (gfd H 3 1 s0) := (rn_ev ..).trans (ev_gk rfl)
theorem x30_8 (l0 l1 : Value) (s0 : Int32) (s1 : Nat) (H : HS) : rn 30 8 [l0, l1] [.int s0, .ref s1] H = gk 30 9 [l0, l1] [] H (aald H s1 s0) := (rn_ev ..).trans (ev_gk rfl)
theorem x30_9 (l0 : Value) (l1 : Nat) (s0 : Nat) (H : HS) : rn 30 9 [l0, .ref l1] [.ref s0] H = rn 30 10 [l0, .ref l1] [.ref l1, .ref s0] H := rn_nx rfl
theorem x30_10 (l0 l1 : Value) (s0 : Nat) (s1 : Nat) (H : HS) (h : recv H s1 1 = true) : rn 30 10 [l0, l1] [.ref s0, .ref s1] H = bnd true 30 10 [l0, l1] [] (rcal 35 [.ref s1, .ref s0] H) := rn_cal (vcal h rfl)
theorem x30_13 (l0 l1 : Value) (H : HS) : rn 30 13 [l0, l1] [] H = some (.inl none, H) := rn_end rfl
theorem c30 (a0 : Nat) (a1 : Nat) (H : HS) : rcal 30 [.ref a0, .ref a1] H = rn 30 0 [.ref a0, .ref a1] [] H := rfl
theorem x31_0 (l0 : Nat) (H : HS) : rn 31 0 [.ref l0] [] H = rn 31 1 [.ref l0] [.ref l0] H := rn_nx rfl
theorem x31_1 (l0 : Value) (s0 : Nat) (H : HS) : rn 31 1 [l0] [.ref s0] H = gk 31 4 [l0] [] H (gfd H 3 0 s0) := (rn_ev ..).trans (ev_gk rfl)
theorem x31_4 (l0 : Nat) (s0 : Nat) (H : HS) : rn 31 4 [.ref l0] [.ref s0] H = rn 31 5 [.ref l0] [.ref l0, .ref s0] H := rn_nx rfl
theorem x31_5 (l0 : Value) (s0 : Nat) (s1 : Nat) (H : HS) : rn 31 5 [l0] [.ref s0, .ref s1] H = gk 31 8 [l0] [.ref s1] H (gfd H 3 1 s0) := (rn_ev ..).trans (ev_gk rfl)
theorem x31_8 (l0 : Value) (s0 : Int32) (s1 : Nat) (H : HS) : rn 31 8 [l0] [.int s0, .ref s1] H = gk 31 9 [l0] [] H (aald H s1 s0) := (rn_ev ..).trans (ev_gk rfl)
theorem x31_9 (l0 : Value) (s0 : Nat) (H : HS) : rn 31 9 [l0] [.ref s0] H = some (.inl (some (.ref s0)), H) := rn_end rfl
theorem c31 (a0 : Nat) (H : HS) : rcal 31 [.ref a0] H = rn 31 0 [.ref a0] [] H := rfl
theorem x32_0 (l0 : Nat) (H : HS) : rn 32 0 [.ref l0] [] H = rn 32 1 [.ref l0] [.ref l0] H := rn_nx rfl
theorem x32_1 (l0 : Nat) (s0 : Nat) (H : HS) : rn 32 1 [.ref l0] [.ref s0] H = rn 32 2 [.ref l0] [.ref l0, .ref s0] H := rn_nx rfl
theorem x32_2 (l0 : Value) (s0 : Nat) (s1 : Nat) (H : HS) : rn 32 2 [l0] [.ref s0, .ref s1] H = gk 32 5 [l0] [.ref s1] H (gfd H 3 1 s0) := (rn_ev ..).trans (ev_gk rfl)
theorem x32_5 (l0 : Value) (s0 : Int32) (s1 : Nat) (H : HS) : rn 32 5 [l0] [.int s0, .ref s1] H = rn 32 6 [l0] [.int 1, .int s0, .ref s1] H := rn_nx rfl
theorem x32_6 (l0 : Value) (s0 : Int32) (s1 : Int32) (s2 : Nat) (H : HS) : rn 32 6 [l0] [.int s0, .int s1, .ref s2] H = rn 32 7 [l0] [.int (s1 + s0), .ref s2] H := rn_nx rfl
theorem x32_7 (l0 : Value) (s0 : Int32) (s1 : Nat) (H : HS) : rn 32 7 [l0] [.int s0, .ref s1] H = rn 32 9 [l0] [.int 9, .int s0, .ref s1] H := rn_nx rfl
theorem x32_9 (l0 : Value) (s0 : Int32) (s1 : Int32) (s2 : Nat) (H : HS) : rn 32 9 [l0] [.int s0, .int s1, .ref s2] H = bnd true 32 9 [l0] [.ref s2] (rcal 12 [.int s1, .int s0] H) := rn_cal rfl
theorem x32_12 (l0 : Value) (s0 : Int32) (s1 : Nat) (H : HS) : rn 32 12 [l0] [.int s0, .ref s1] H = pk 32 15 [l0] [] (pfd H true 3 1 s1 (.int s0)) := (rn_ev ..).trans (ev_pk rfl)
theorem x32_15 (l0 : Nat) (H : HS) : rn 32 15 [.ref l0] [] H = rn 32 16 [.ref l0] [.ref l0] H := rn_nx rfl
theorem x32_16 (l0 : Nat) (s0 : Nat) (H : HS) : rn 32 16 [.ref l0] [.ref s0] H = rn 32 17 [.ref l0] [.ref l0, .ref s0] H := rn_nx rfl
theorem x32_17 (l0 : Value) (s0 : Nat) (s1 : Nat) (H : HS) : rn 32 17 [l0] [.ref s0, .ref s1] H = gk 32 20 [l0] [.ref s1] H (gfd H 3 2 s0) := (rn_ev ..).trans (ev_gk rfl)
theorem x32_20 (l0 : Value) (s0 : Int32) (s1 : Nat) (H : HS) : rn 32 20 [l0] [.int s0, .ref s1] H = rn 32 21 [l0] [.int 1, .int s0, .ref s1] H := rn_nx rfl
theorem x32_21 (l0 : Value) (s0 : Int32) (s1 : Int32) (s2 : Nat) (H : HS) : rn 32 21 [l0] [.int s0, .int s1, .ref s2] H = rn 32 22 [l0] [.int (s1 + s0), .ref s2] H := rn_nx rfl
theorem x32_22 (l0 : Value) (s0 : Int32) (s1 : Nat) (H : HS) : rn 32 22 [l0] [.int s0, .ref s1] H = rn 32 24 [l0] [.int 8, .int s0, .ref s1] H := rn_nx rfl
theorem x32_24 (l0 : Value) (s0 : Int32) (s1 : Int32) (s2 : Nat) (H : HS) : rn 32 24 [l0] [.int s0, .int s1, .ref s2] H = rn 32 27 [l0] [.int (if s0 < s1 then s0 else s1), .ref s2] H := rn_nx rfl
theorem x32_27 (l0 : Value) (s0 : Int32) (s1 : Nat) (H : HS) : rn 32 27 [l0] [.int s0, .ref s1] H = pk 32 30 [l0] [] (pfd H true 3 2 s1 (.int s0)) := (rn_ev ..).trans (ev_pk rfl)
theorem x32_30 (l0 : Value) (H : HS) : rn 32 30 [l0] [] H = some (.inl none, H) := rn_end rfl
theorem c32 (a0 : Nat) (H : HS) : rcal 32 [.ref a0] H = rn 32 0 [.ref a0] [] H := rfl
theorem x33_0 (l0 : Nat) (H : HS) : rn 33 0 [.ref l0] [] H = rn 33 1 [.ref l0] [.ref l0] H := rn_nx rfl
theorem x33_1 (l0 : Nat) (s0 : Nat) (H : HS) : rn 33 1 [.ref l0] [.ref s0] H = rn 33 2 [.ref l0] [.ref l0, .ref s0] H := rn_nx rfl
theorem x33_2 (l0 : Value) (s0 : Nat) (s1 : Nat) (H : HS) : rn 33 2 [l0] [.ref s0, .ref s1] H = gk 33 5 [l0] [.ref s1] H (gfd H 3 1 s0) := (rn_ev ..).trans (ev_gk rfl)
theorem x33_5 (l0 : Value) (s0 : Int32) (s1 : Nat) (H : HS) : rn 33 5 [l0] [.int s0, .ref s1] H = rn 33 6 [l0] [.int 1, .int s0, .ref s1] H := rn_nx rfl
theorem x33_6 (l0 : Value) (s0 : Int32) (s1 : Int32) (s2 : Nat) (H : HS) : rn 33 6 [l0] [.int s0, .int s1, .ref s2] H = rn 33 7 [l0] [.int (s1 - s0), .ref s2] H := rn_nx rfl
theorem x33_7 (l0 : Value) (s0 : Int32) (s1 : Nat) (H : HS) : rn 33 7 [l0] [.int s0, .ref s1] H = rn 33 9 [l0] [.int 9, .int s0, .ref s1] H := rn_nx rfl
theorem x33_9 (l0 : Value) (s0 : Int32) (s1 : Int32) (s2 : Nat) (H : HS) : rn 33 9 [l0] [.int s0, .int s1, .ref s2] H = bnd true 33 9 [l0] [.ref s2] (rcal 12 [.int s1, .int s0] H) := rn_cal rfl
theorem x33_12 (l0 : Value) (s0 : Int32) (s1 : Nat) (H : HS) : rn 33 12 [l0] [.int s0, .ref s1] H = pk 33 15 [l0] [] (pfd H true 3 1 s1 (.int s0)) := (rn_ev ..).trans (ev_pk rfl)
theorem x33_15 (l0 : Nat) (H : HS) : rn 33 15 [.ref l0] [] H = rn 33 16 [.ref l0] [.ref l0] H := rn_nx rfl
theorem x33_16 (l0 : Value) (s0 : Nat) (H : HS) : rn 33 16 [l0] [.ref s0] H = rn 33 17 [l0] [.ref s0, .ref s0] H := rn_nx rfl
theorem x33_17 (l0 : Value) (s0 : Nat) (s1 : Nat) (H : HS) : rn 33 17 [l0] [.ref s0, .ref s1] H = gk 33 20 [l0] [.ref s1] H (gfd H 3 2 s0) := (rn_ev ..).trans (ev_gk rfl)
theorem x33_20 (l0 : Value) (s0 : Int32) (s1 : Nat) (H : HS) : rn 33 20 [l0] [.int s0, .ref s1] H = rn 33 21 [l0] [.int 1, .int s0, .ref s1] H := rn_nx rfl
theorem x33_21 (l0 : Value) (s0 : Int32) (s1 : Int32) (s2 : Nat) (H : HS) : rn 33 21 [l0] [.int s0, .int s1, .ref s2] H = rn 33 22 [l0] [.int (s1 - s0), .ref s2] H := rn_nx rfl
theorem x33_22 (l0 : Value) (s0 : Int32) (s1 : Nat) (H : HS) : rn 33 22 [l0] [.int s0, .ref s1] H = pk 33 25 [l0] [] (pfd H true 3 2 s1 (.int s0)) := (rn_ev ..).trans (ev_pk rfl)
theorem x33_25 (l0 : Nat) (H : HS) : rn 33 25 [.ref l0] [] H = rn 33 26 [.ref l0] [.ref l0] H := rn_nx rfl
theorem x33_26 (l0 : Value) (s0 : Nat) (H : HS) : rn 33 26 [l0] [.ref s0] H = gk 33 29 [l0] [] H (gfd H 3 0 s0) := (rn_ev ..).trans (ev_gk rfl)
theorem x33_29 (l0 : Nat) (s0 : Nat) (H : HS) : rn 33 29 [.ref l0] [.ref s0] H = rn 33 30 [.ref l0] [.ref l0, .ref s0] H := rn_nx rfl
theorem x33_30 (l0 : Value) (s0 : Nat) (s1 : Nat) (H : HS) : rn 33 30 [l0] [.ref s0, .ref s1] H = gk 33 33 [l0] [.ref s1] H (gfd H 3 1 s0) := (rn_ev ..).trans (ev_gk rfl)
theorem x33_33 (l0 : Value) (s0 : Int32) (s1 : Nat) (H : HS) : rn 33 33 [l0] [.int s0, .ref s1] H = gk 33 34 [l0] [] H (aald H s1 s0) := (rn_ev ..).trans (ev_gk rfl)
theorem x33_34 (l0 : Value) (s0 : Nat) (H : HS) : rn 33 34 [l0] [.ref s0] H = some (.inl (some (.ref s0)), H) := rn_end rfl
theorem c33 (a0 : Nat) (H : HS) : rcal 33 [.ref a0] H = rn 33 0 [.ref a0] [] H := rfl
theorem x34_0 (l1 : Value) (l0 : Nat) (H : HS) : rn 34 0 [.ref l0, l1] [] H = rn 34 1 [.ref l0, l1] [.ref l0] H := rn_nx rfl
theorem x34_1 (l0 l1 : Value) (s0 : Nat) (H : HS) : rn 34 1 [l0, l1] [.ref s0] H = rn 34 4 [l0, l1] [] H := rn_nx rfl
theorem x34_4 (l1 : Value) (l0 : Nat) (H : HS) : rn 34 4 [.ref l0, l1] [] H = rn 34 5 [.ref l0, l1] [.ref l0] H := rn_nx rfl
theorem x34_5 (l0 l1 : Value) (s0 : Nat) (H : HS) : rn 34 5 [l0, l1] [.ref s0] H = rn 34 7 [l0, l1] [.int 7, .ref s0] H := rn_nx rfl
theorem x34_7 (l0 l1 : Value) (s0 : Int32) (s1 : Nat) (H : HS) : rn 34 7 [l0, l1] [.int s0, .ref s1] H = if s0 < 0 ∨ 100000 < s0.toNatClampNeg then none else rn 34 9 [l0, l1] [.ref H.2.1, .ref s1] (hsn H (100, List.replicate s0.toNatClampNeg (.int 0)) s0.toNatClampNeg) := (rn_ev ..).trans (ev_if rfl)
theorem x34_9 (l0 l1 : Value) (s0 : Nat) (s1 : Nat) (H : HS) : rn 34 9 [l0, l1] [.ref s0, .ref s1] H = pk 34 12 [l0, l1] [] (pfd H true 1 1 s1 (.ref s0)) := (rn_ev ..).trans (ev_pk rfl)
theorem x34_12 (l1 : Value) (l0 : Nat) (H : HS) : rn 34 12 [.ref l0, l1] [] H = rn 34 13 [.ref l0, l1] [.ref l0] H := rn_nx rfl
theorem x34_13 (l0 l1 : Value) (s0 : Nat) (H : HS) : rn 34 13 [l0, l1] [.ref s0] H = rn 34 15 [l0, l1] [.int 6, .ref s0] H := rn_nx rfl
theorem x34_15 (l0 l1 : Value) (s0 : Int32) (s1 : Nat) (H : HS) : rn 34 15 [l0, l1] [.int s0, .ref s1] H = if s0 < 0 ∨ 100000 < s0.toNatClampNeg then none else rn 34 17 [l0, l1] [.ref H.2.1, .ref s1] (hsn H (100, List.replicate s0.toNatClampNeg (.int 0)) s0.toNatClampNeg) := (rn_ev ..).trans (ev_if rfl)
theorem x34_17 (l0 l1 : Value) (s0 : Nat) (s1 : Nat) (H : HS) : rn 34 17 [l0, l1] [.ref s0, .ref s1] H = pk 34 20 [l0, l1] [] (pfd H true 1 2 s1 (.ref s0)) := (rn_ev ..).trans (ev_pk rfl)
theorem x34_20 (l1 : Value) (l0 : Nat) (H : HS) : rn 34 20 [.ref l0, l1] [] H = rn 34 21 [.ref l0, l1] [.ref l0] H := rn_nx rfl
theorem x34_21 (l0 l1 : Value) (s0 : Nat) (H : HS) : rn 34 21 [l0, l1] [.ref s0] H = rn 34 23 [l0, l1] [.int 7, .ref s0] H := rn_nx rfl
theorem x34_23 (l0 l1 : Value) (s0 : Int32) (s1 : Nat) (H : HS) : rn 34 23 [l0, l1] [.int s0, .ref s1] H = if s0 < 0 ∨ 100000 < s0.toNatClampNeg then none else rn 34 25 [l0, l1] [.ref H.2.1, .ref s1] (hsn H (100, List.replicate s0.toNatClampNeg (.int 0)) s0.toNatClampNeg) := (rn_ev ..).trans (ev_if rfl)
theorem x34_25 (l0 l1 : Value) (s0 : Nat) (s1 : Nat) (H : HS) : rn 34 25 [l0, l1] [.ref s0, .ref s1] H = pk 34 28 [l0, l1] [] (pfd H true 1 3 s1 (.ref s0)) := (rn_ev ..).trans (ev_pk rfl)
theorem x34_28 (l1 : Value) (l0 : Nat) (H : HS) : rn 34 28 [.ref l0, l1] [] H = rn 34 29 [.ref l0, l1] [.ref l0] H := rn_nx rfl
theorem x34_29 (l0 l1 : Value) (s0 : Nat) (H : HS) : rn 34 29 [l0, l1] [.ref s0] H = rn 34 31 [l0, l1] [.int 6, .ref s0] H := rn_nx rfl
theorem x34_31 (l0 l1 : Value) (s0 : Int32) (s1 : Nat) (H : HS) : rn 34 31 [l0, l1] [.int s0, .ref s1] H = if s0 < 0 ∨ 100000 < s0.toNatClampNeg then none else rn 34 34 [l0, l1] [.ref H.2.1, .ref s1] (hsn H (105, List.replicate s0.toNatClampNeg .null) s0.toNatClampNeg) := (rn_ev ..).trans (ev_if rfl)
theorem x34_34 (l0 l1 : Value) (s0 : Nat) (s1 : Nat) (H : HS) : rn 34 34 [l0, l1] [.ref s0, .ref s1] H = pk 34 37 [l0, l1] [] (pfd H true 1 4 s1 (.ref s0)) := (rn_ev ..).trans (ev_pk rfl)
theorem x34_37 (l0 l1 : Value) (H : HS) : rn 34 37 [l0, l1] [] H = rn 34 38 [l0, l1] [.int 0] H := rn_nx rfl
theorem x34_38 (l0 l1 : Value) (s0 : Int32) (H : HS) : rn 34 38 [l0, l1] [.int s0] H = rn 34 39 [(kl l0), .int s0] [] H := rn_nx rfl
theorem x34_39 (l0 : Value) (l1 : Int32) (H : HS) : rn 34 39 [l0, .int l1] [] H = rn 34 40 [l0, .int l1] [.int l1] H := rn_nx rfl
theorem x34_40 (l0 l1 : Value) (s0 : Int32) (H : HS) : rn 34 40 [l0, l1] [.int s0] H = rn 34 42 [l0, l1] [.int 6, .int s0] H := rn_nx rfl
theorem x34_42 (l0 l1 : Value) (s0 : Int32) (s1 : Int32) (H : HS) : rn 34 42 [l0, l1] [.int s0, .int s1] H = if s1 < s0 then rn 34 45 [l0, l1] [] H else rn 34 64 [l0, l1] [] H := (rn_ev ..).trans (ev_bin rfl)
theorem x34_45 (l1 : Value) (l0 : Nat) (H : HS) : rn 34 45 [.ref l0, l1] [] H = rn 34 46 [.ref l0, l1] [.ref l0] H := rn_nx rfl
theorem x34_46 (l0 l1 : Value) (s0 : Nat) (H : HS) : rn 34 46 [l0, l1] [.ref s0] H = gk 34 49 [l0, l1] [] H (gfd H 1 4 s0) := (rn_ev ..).trans (ev_gk rfl)
theorem x34_49 (l0 : Value) (l1 : Int32) (s0 : Nat) (H : HS) : rn 34 49 [l0, .int l1] [.ref s0] H = rn 34 50 [l0, .int l1] [.int l1, .ref s0] H := rn_nx rfl
theorem x34_50 (l0 l1 : Value) (s0 : Int32) (s1 : Nat) (H : HS) : rn 34 50 [l0, l1] [.int s0, .ref s1] H = rn 34 53 [l0, l1] [.ref H.2.1, .int s0, .ref s1] (hsn H (2, dF 2) 12) := rn_nx rfl
theorem x34_53 (l0 l1 : Value) (s0 : Nat) (s1 : Int32) (s2 : Nat) (H : HS) : rn 34 53 [l0, l1] [.ref s0, .int s1, .ref s2] H = rn 34 54 [l0, l1] [.ref s0, .ref s0, .int s1, .ref s2] H := rn_nx rfl
theorem x34_54 (l0 l1 : Value) (s0 : Nat) (s1 : Nat) (s2 : Int32) (s3 : Nat) (H : HS) : rn 34 54 [l0, l1] [.ref s0, .ref s1, .int s2, .ref s3] H = bnd false 34 54 [l0, l1] [.ref s1, .int s2, .ref s3] (rcal 81 [.ref s0] H) := rn_cal rfl
theorem x34_57 (l0 l1 : Value) (s0 : Nat) (s1 : Int32) (s2 : Nat) (H : HS) : rn 34 57 [l0, l1] [.ref s0, .int s1, .ref s2] H = pk 34 58 [l0, l1] [] (aast H s2 s1 s0) := (rn_ev ..).trans (ev_pk rfl)
theorem x34_58 (l0 : Value) (l1 : Int32) (H : HS) : rn 34 58 [l0, .int l1] [] H = rn 34 61 [(kl l0), .int (l1 + 1)] [] H := rn_nx rfl
theorem x34_61 (l0 l1 : Value) (H : HS) : rn 34 61 [l0, l1] [] H = rn 34 39 [l0, l1] [] H := rn_nx rfl
theorem x34_64 (l0 l1 : Value) (H : HS) : rn 34 64 [l0, l1] [] H = some (.inl none, H) := rn_end rfl
theorem c34 (a0 : Nat) (H : HS) : rcal 34 [.ref a0] H = rn 34 0 [.ref a0, un] [] H := rfl
theorem x35_0 (l1 l2 : Value) (l0 : Nat) (H : HS) : rn 35 0 [.ref l0, l1, l2] [] H = rn 35 1 [.ref l0, l1, l2] [.ref l0] H := rn_nx rfl
theorem x35_1 (l0 l2 : Value) (l1 : Nat) (s0 : Nat) (H : HS) : rn 35 1 [l0, .ref l1, l2] [.ref s0] H = rn 35 2 [l0, .ref l1, l2] [.ref l1, .ref s0] H := rn_nx rfl
theorem x35_2 (l0 l1 l2 : Value) (s0 : Nat) (s1 : Nat) (H : HS) : rn 35 2 [l0, l1, l2] [.ref s0, .ref s1] H = gk 35 5 [l0, l1, l2] [.ref s1] H (gfd H 1 0 s0) := (rn_ev ..).trans (ev_gk rfl)
theorem x35_5 (l0 l1 l2 : Value) (s0 : Int32) (s1 : Nat) (H : HS) : rn 35 5 [l0, l1, l2] [.int s0, .ref s1] H = pk 35 8 [l0, l1, l2] [] (pfd H true 1 0 s1 (.int s0)) := (rn_ev ..).trans (ev_pk rfl)
theorem x35_8 (l0 l2 : Value) (l1 : Nat) (H : HS) : rn 35 8 [l0, .ref l1, l2] [] H = rn 35 9 [l0, .ref l1, l2] [.ref l1] H := rn_nx rfl
theorem x35_9 (l0 l1 l2 : Value) (s0 : Nat) (H : HS) : rn 35 9 [l0, l1, l2] [.ref s0] H = gk 35 12 [l0, l1, l2] [] H (gfd H 1 1 s0) := (rn_ev ..).trans (ev_gk rfl)
theorem x35_12 (l0 l1 l2 : Value) (s0 : Nat) (H : HS) : rn 35 12 [l0, l1, l2] [.ref s0] H = rn 35 13 [l0, l1, l2] [.int 0, .ref s0] H := rn_nx rfl
theorem x35_13 (l1 l2 : Value) (l0 : Nat) (s0 : Int32) (s1 : Nat) (H : HS) : rn 35 13 [.ref l0, l1, l2] [.int s0, .ref s1] H = rn 35 14 [.ref l0, l1, l2] [.ref l0, .int s0, .ref s1] H := rn_nx rfl
theorem x35_14 (l0 l1 l2 : Value) (s0 : Nat) (s1 : Int32) (s2 : Nat) (H : HS) : rn 35 14 [l0, l1, l2] [.ref s0, .int s1, .ref s2] H = gk 35 17 [l0, l1, l2] [.int s1, .ref s2] H (gfd H 1 1 s0) := (rn_ev ..).trans (ev_gk rfl)
theorem x35_17 (l0 l1 l2 : Value) (s0 : Nat) (s1 : Int32) (s2 : Nat) (H : HS) : rn 35 17 [l0, l1, l2] [.ref s0, .int s1, .ref s2] H = rn 35 18 [l0, l1, l2] [.int 0, .ref s0, .int s1, .ref s2] H := rn_nx rfl
theorem x35_18 (l0 l1 l2 : Value) (s0 : Int32) (s1 : Nat) (s2 : Int32) (s3 : Nat) (H : HS) : rn 35 18 [l0, l1, l2] [.int s0, .ref s1, .int s2, .ref s3] H = rn 35 20 [l0, l1, l2] [.int 7, .int s0, .ref s1, .int s2, .ref s3] H := rn_nx rfl
theorem x35_20 (l0 l1 l2 : Value) (s0 : Int32) (s1 : Int32) (s2 : Nat) (s3 : Int32) (s4 : Nat) (H : HS) : rn 35 20 [l0, l1, l2] [.int s0, .int s1, .ref s2, .int s3, .ref s4] H = pk 35 23 [l0, l1, l2] [] (acp H s4 s2 s3 s1 s0) := (rn_ev ..).trans (ev_pk rfl)
theorem x35_23 (l0 l2 : Value) (l1 : Nat) (H : HS) : rn 35 23 [l0, .ref l1, l2] [] H = rn 35 24 [l0, .ref l1, l2] [.ref l1] H := rn_nx rfl
theorem x35_24 (l0 l1 l2 : Value) (s0 : Nat) (H : HS) : rn 35 24 [l0, l1, l2] [.ref s0] H = gk 35 27 [l0, l1, l2] [] H (gfd H 1 2 s0) := (rn_ev ..).trans (ev_gk rfl)
theorem x35_27 (l0 l1 l2 : Value) (s0 : Nat) (H : HS) : rn 35 27 [l0, l1, l2] [.ref s0] H = rn 35 28 [l0, l1, l2] [.int 0, .ref s0] H := rn_nx rfl
theorem x35_28 (l1 l2 : Value) (l0 : Nat) (s0 : Int32) (s1 : Nat) (H : HS) : rn 35 28 [.ref l0, l1, l2] [.int s0, .ref s1] H = rn 35 29 [.ref l0, l1, l2] [.ref l0, .int s0, .ref s1] H := rn_nx rfl
theorem x35_29 (l0 l1 l2 : Value) (s0 : Nat) (s1 : Int32) (s2 : Nat) (H : HS) : rn 35 29 [l0, l1, l2] [.ref s0, .int s1, .ref s2] H = gk 35 32 [l0, l1, l2] [.int s1, .ref s2] H (gfd H 1 2 s0) := (rn_ev ..).trans (ev_gk rfl)
theorem x35_32 (l0 l1 l2 : Value) (s0 : Nat) (s1 : Int32) (s2 : Nat) (H : HS) : rn 35 32 [l0, l1, l2] [.ref s0, .int s1, .ref s2] H = rn 35 33 [l0, l1, l2] [.int 0, .ref s0, .int s1, .ref s2] H := rn_nx rfl
theorem x35_33 (l0 l1 l2 : Value) (s0 : Int32) (s1 : Nat) (s2 : Int32) (s3 : Nat) (H : HS) : rn 35 33 [l0, l1, l2] [.int s0, .ref s1, .int s2, .ref s3] H = rn 35 35 [l0, l1, l2] [.int 6, .int s0, .ref s1, .int s2, .ref s3] H := rn_nx rfl
theorem x35_35 (l0 l1 l2 : Value) (s0 : Int32) (s1 : Int32) (s2 : Nat) (s3 : Int32) (s4 : Nat) (H : HS) : rn 35 35 [l0, l1, l2] [.int s0, .int s1, .ref s2, .int s3, .ref s4] H = pk 35 38 [l0, l1, l2] [] (acp H s4 s2 s3 s1 s0) := (rn_ev ..).trans (ev_pk rfl)
theorem x35_38 (l0 l2 : Value) (l1 : Nat) (H : HS) : rn 35 38 [l0, .ref l1, l2] [] H = rn 35 39 [l0, .ref l1, l2] [.ref l1] H := rn_nx rfl
theorem x35_39 (l0 l1 l2 : Value) (s0 : Nat) (H : HS) : rn 35 39 [l0, l1, l2] [.ref s0] H = gk 35 42 [l0, l1, l2] [] H (gfd H 1 3 s0) := (rn_ev ..).trans (ev_gk rfl)
theorem x35_42 (l0 l1 l2 : Value) (s0 : Nat) (H : HS) : rn 35 42 [l0, l1, l2] [.ref s0] H = rn 35 43 [l0, l1, l2] [.int 0, .ref s0] H := rn_nx rfl
theorem x35_43 (l1 l2 : Value) (l0 : Nat) (s0 : Int32) (s1 : Nat) (H : HS) : rn 35 43 [.ref l0, l1, l2] [.int s0, .ref s1] H = rn 35 44 [.ref l0, l1, l2] [.ref l0, .int s0, .ref s1] H := rn_nx rfl
theorem x35_44 (l0 l1 l2 : Value) (s0 : Nat) (s1 : Int32) (s2 : Nat) (H : HS) : rn 35 44 [l0, l1, l2] [.ref s0, .int s1, .ref s2] H = gk 35 47 [l0, l1, l2] [.int s1, .ref s2] H (gfd H 1 3 s0) := (rn_ev ..).trans (ev_gk rfl)
theorem x35_47 (l0 l1 l2 : Value) (s0 : Nat) (s1 : Int32) (s2 : Nat) (H : HS) : rn 35 47 [l0, l1, l2] [.ref s0, .int s1, .ref s2] H = rn 35 48 [l0, l1, l2] [.int 0, .ref s0, .int s1, .ref s2] H := rn_nx rfl
theorem x35_48 (l0 l1 l2 : Value) (s0 : Int32) (s1 : Nat) (s2 : Int32) (s3 : Nat) (H : HS) : rn 35 48 [l0, l1, l2] [.int s0, .ref s1, .int s2, .ref s3] H = rn 35 50 [l0, l1, l2] [.int 7, .int s0, .ref s1, .int s2, .ref s3] H := rn_nx rfl
theorem x35_50 (l0 l1 l2 : Value) (s0 : Int32) (s1 : Int32) (s2 : Nat) (s3 : Int32) (s4 : Nat) (H : HS) : rn 35 50 [l0, l1, l2] [.int s0, .int s1, .ref s2, .int s3, .ref s4] H = pk 35 53 [l0, l1, l2] [] (acp H s4 s2 s3 s1 s0) := (rn_ev ..).trans (ev_pk rfl)
theorem x35_53 (l0 l1 l2 : Value) (H : HS) : rn 35 53 [l0, l1, l2] [] H = rn 35 54 [l0, l1, l2] [.int 0] H := rn_nx rfl
theorem x35_54 (l0 l1 l2 : Value) (s0 : Int32) (H : HS) : rn 35 54 [l0, l1, l2] [.int s0] H = rn 35 55 [l0, (kl l1), .int s0] [] H := rn_nx rfl
theorem x35_55 (l0 l1 : Value) (l2 : Int32) (H : HS) : rn 35 55 [l0, l1, .int l2] [] H = rn 35 56 [l0, l1, .int l2] [.int l2] H := rn_nx rfl
theorem x35_56 (l0 l1 l2 : Value) (s0 : Int32) (H : HS) : rn 35 56 [l0, l1, l2] [.int s0] H = rn 35 58 [l0, l1, l2] [.int 6, .int s0] H := rn_nx rfl
theorem x35_58 (l0 l1 l2 : Value) (s0 : Int32) (s1 : Int32) (H : HS) : rn 35 58 [l0, l1, l2] [.int s0, .int s1] H = if s1 < s0 then rn 35 61 [l0, l1, l2] [] H else rn 35 82 [l0, l1, l2] [] H := (rn_ev ..).trans (ev_bin rfl)
theorem x35_61 (l1 l2 : Value) (l0 : Nat) (H : HS) : rn 35 61 [.ref l0, l1, l2] [] H = rn 35 62 [.ref l0, l1, l2] [.ref l0] H := rn_nx rfl
theorem x35_62 (l0 l1 l2 : Value) (s0 : Nat) (H : HS) : rn 35 62 [l0, l1, l2] [.ref s0] H = gk 35 65 [l0, l1, l2] [] H (gfd H 1 4 s0) := (rn_ev ..).trans (ev_gk rfl)
theorem x35_65 (l0 l1 : Value) (l2 : Int32) (s0 : Nat) (H : HS) : rn 35 65 [l0, l1, .int l2] [.ref s0] H = rn 35 66 [l0, l1, .int l2] [.int l2, .ref s0] H := rn_nx rfl
theorem x35_66 (l0 l1 l2 : Value) (s0 : Int32) (s1 : Nat) (H : HS) : rn 35 66 [l0, l1, l2] [.int s0, .ref s1] H = gk 35 67 [l0, l1, l2] [] H (aald H s1 s0) := (rn_ev ..).trans (ev_gk rfl)
theorem x35_67 (l0 l2 : Value) (l1 : Nat) (s0 : Nat) (H : HS) : rn 35 67 [l0, .ref l1, l2] [.ref s0] H = rn 35 68 [l0, .ref l1, l2] [.ref l1, .ref s0] H := rn_nx rfl
theorem x35_68 (l0 l1 l2 : Value) (s0 : Nat) (s1 : Nat) (H : HS) : rn 35 68 [l0, l1, l2] [.ref s0, .ref s1] H = gk 35 71 [l0, l1, l2] [.ref s1] H (gfd H 1 4 s0) := (rn_ev ..).trans (ev_gk rfl)
theorem x35_71 (l0 l1 : Value) (l2 : Int32) (s0 : Nat) (s1 : Nat) (H : HS) : rn 35 71 [l0, l1, .int l2] [.ref s0, .ref s1] H = rn 35 72 [l0, l1, .int l2] [.int l2, .ref s0, .ref s1] H := rn_nx rfl
theorem x35_72 (l0 l1 l2 : Value) (s0 : Int32) (s1 : Nat) (s2 : Nat) (H : HS) : rn 35 72 [l0, l1, l2] [.int s0, .ref s1, .ref s2] H = gk 35 73 [l0, l1, l2] [.ref s2] H (aald H s1 s0) := (rn_ev ..).trans (ev_gk rfl)
theorem x35_73 (l0 l1 l2 : Value) (s0 : Nat) (s1 : Nat) (H : HS) (h : recv H s1 2 = true) : rn 35 73 [l0, l1, l2] [.ref s0, .ref s1] H = bnd true 35 73 [l0, l1, l2] [] (rcal 89 [.ref s1, .ref s0] H) := rn_cal (vcal h rfl)
theorem x35_76 (l0 l1 : Value) (l2 : Int32) (H : HS) : rn 35 76 [l0, l1, .int l2] [] H = rn 35 79 [l0, (kl l1), .int (l2 + 1)] [] H := rn_nx rfl
theorem x35_79 (l0 l1 l2 : Value) (H : HS) : rn 35 79 [l0, l1, l2] [] H = rn 35 55 [l0, l1, l2] [] H := rn_nx rfl
theorem x35_82 (l1 l2 : Value) (l0 : Nat) (H : HS) : rn 35 82 [.ref l0, l1, l2] [] H = rn 35 83 [.ref l0, l1, l2] [.ref l0] H := rn_nx rfl
theorem x35_83 (l0 l2 : Value) (l1 : Nat) (s0 : Nat) (H : HS) : rn 35 83 [l0, .ref l1, l2] [.ref s0] H = rn 35 84 [l0, .ref l1, l2] [.ref l1, .ref s0] H := rn_nx rfl
theorem x35_84 (l0 l1 l2 : Value) (s0 : Nat) (s1 : Nat) (H : HS) : rn 35 84 [l0, l1, l2] [.ref s0, .ref s1] H = gk 35 87 [l0, l1, l2] [.ref s1] H (gfd H 1 5 s0) := (rn_ev ..).trans (ev_gk rfl)
theorem x35_87 (l0 l1 l2 : Value) (s0 : Int32) (s1 : Nat) (H : HS) : rn 35 87 [l0, l1, l2] [.int s0, .ref s1] H = pk 35 90 [l0, l1, l2] [] (pfd H true 1 5 s1 (.int s0)) := (rn_ev ..).trans (ev_pk rfl)
theorem x35_90 (l1 l2 : Value) (l0 : Nat) (H : HS) : rn 35 90 [.ref l0, l1, l2] [] H = rn 35 91 [.ref l0, l1, l2] [.ref l0] H := rn_nx rfl
theorem x35_91 (l0 l2 : Value) (l1 : Nat) (s0 : Nat) (H : HS) : rn 35 91 [l0, .ref l1, l2] [.ref s0] H = rn 35 92 [l0, .ref l1, l2] [.ref l1, .ref s0] H := rn_nx rfl
theorem x35_92 (l0 l1 l2 : Value) (s0 : Nat) (s1 : Nat) (H : HS) : rn 35 92 [l0, l1, l2] [.ref s0, .ref s1] H = gk 35 95 [l0, l1, l2] [.ref s1] H (gfd H 1 6 s0) := (rn_ev ..).trans (ev_gk rfl)
theorem x35_95 (l0 l1 l2 : Value) (s0 : Int32) (s1 : Nat) (H : HS) : rn 35 95 [l0, l1, l2] [.int s0, .ref s1] H = pk 35 98 [l0, l1, l2] [] (pfd H true 1 6 s1 (.int s0)) := (rn_ev ..).trans (ev_pk rfl)
theorem x35_98 (l1 l2 : Value) (l0 : Nat) (H : HS) : rn 35 98 [.ref l0, l1, l2] [] H = rn 35 99 [.ref l0, l1, l2] [.ref l0] H := rn_nx rfl
theorem x35_99 (l0 l2 : Value) (l1 : Nat) (s0 : Nat) (H : HS) : rn 35 99 [l0, .ref l1, l2] [.ref s0] H = rn 35 100 [l0, .ref l1, l2] [.ref l1, .ref s0] H := rn_nx rfl
theorem x35_100 (l0 l1 l2 : Value) (s0 : Nat) (s1 : Nat) (H : HS) : rn 35 100 [l0, l1, l2] [.ref s0, .ref s1] H = gk 35 103 [l0, l1, l2] [.ref s1] H (gfd H 1 7 s0) := (rn_ev ..).trans (ev_gk rfl)
theorem x35_103 (l0 l1 l2 : Value) (s0 : Int32) (s1 : Nat) (H : HS) : rn 35 103 [l0, l1, l2] [.int s0, .ref s1] H = pk 35 106 [l0, l1, l2] [] (pfd H true 1 7 s1 (.int s0)) := (rn_ev ..).trans (ev_pk rfl)
theorem x35_106 (l1 l2 : Value) (l0 : Nat) (H : HS) : rn 35 106 [.ref l0, l1, l2] [] H = rn 35 107 [.ref l0, l1, l2] [.ref l0] H := rn_nx rfl
theorem x35_107 (l0 l2 : Value) (l1 : Nat) (s0 : Nat) (H : HS) : rn 35 107 [l0, .ref l1, l2] [.ref s0] H = rn 35 108 [l0, .ref l1, l2] [.ref l1, .ref s0] H := rn_nx rfl
theorem x35_108 (l0 l1 l2 : Value) (s0 : Nat) (s1 : Nat) (H : HS) : rn 35 108 [l0, l1, l2] [.ref s0, .ref s1] H = gk 35 111 [l0, l1, l2] [.ref s1] H (gfd H 1 8 s0) := (rn_ev ..).trans (ev_gk rfl)
theorem x35_111 (l0 l1 l2 : Value) (s0 : Int32) (s1 : Nat) (H : HS) : rn 35 111 [l0, l1, l2] [.int s0, .ref s1] H = pk 35 114 [l0, l1, l2] [] (pfd H true 1 8 s1 (.int s0)) := (rn_ev ..).trans (ev_pk rfl)
theorem x35_114 (l1 l2 : Value) (l0 : Nat) (H : HS) : rn 35 114 [.ref l0, l1, l2] [] H = rn 35 115 [.ref l0, l1, l2] [.ref l0] H := rn_nx rfl
theorem x35_115 (l0 l2 : Value) (l1 : Nat) (s0 : Nat) (H : HS) : rn 35 115 [l0, .ref l1, l2] [.ref s0] H = rn 35 116 [l0, .ref l1, l2] [.ref l1, .ref s0] H := rn_nx rfl
theorem x35_116 (l0 l1 l2 : Value) (s0 : Nat) (s1 : Nat) (H : HS) : rn 35 116 [l0, l1, l2] [.ref s0, .ref s1] H = gk 35 119 [l0, l1, l2] [.ref s1] H (gfd H 1 9 s0) := (rn_ev ..).trans (ev_gk rfl)
theorem x35_119 (l0 l1 l2 : Value) (s0 : Int32) (s1 : Nat) (H : HS) : rn 35 119 [l0, l1, l2] [.int s0, .ref s1] H = pk 35 122 [l0, l1, l2] [] (pfd H true 1 9 s1 (.int s0)) := (rn_ev ..).trans (ev_pk rfl)
theorem x35_122 (l1 l2 : Value) (l0 : Nat) (H : HS) : rn 35 122 [.ref l0, l1, l2] [] H = rn 35 123 [.ref l0, l1, l2] [.ref l0] H := rn_nx rfl
theorem x35_123 (l0 l2 : Value) (l1 : Nat) (s0 : Nat) (H : HS) : rn 35 123 [l0, .ref l1, l2] [.ref s0] H = rn 35 124 [l0, .ref l1, l2] [.ref l1, .ref s0] H := rn_nx rfl
theorem x35_124 (l0 l1 l2 : Value) (s0 : Nat) (s1 : Nat) (H : HS) : rn 35 124 [l0, l1, l2] [.ref s0, .ref s1] H = gk 35 127 [l0, l1, l2] [.ref s1] H (gfd H 1 10 s0) := (rn_ev ..).trans (ev_gk rfl)
theorem x35_127 (l0 l1 l2 : Value) (s0 : Int64) (s1 : Nat) (H : HS) : rn 35 127 [l0, l1, l2] [.long s0, .ref s1] H = pk 35 130 [l0, l1, l2] [] (pfd H true 1 10 s1 (.long s0)) := (rn_ev ..).trans (ev_pk rfl)
theorem x35_130 (l1 l2 : Value) (l0 : Nat) (H : HS) : rn 35 130 [.ref l0, l1, l2] [] H = rn 35 131 [.ref l0, l1, l2] [.ref l0] H := rn_nx rfl
theorem x35_131 (l0 l2 : Value) (l1 : Nat) (s0 : Nat) (H : HS) : rn 35 131 [l0, .ref l1, l2] [.ref s0] H = rn 35 132 [l0, .ref l1, l2] [.ref l1, .ref s0] H := rn_nx rfl
theorem x35_132 (l0 l1 l2 : Value) (s0 : Nat) (s1 : Nat) (H : HS) : rn 35 132 [l0, l1, l2] [.ref s0, .ref s1] H = gk 35 135 [l0, l1, l2] [.ref s1] H (gfd H 1 11 s0) := (rn_ev ..).trans (ev_gk rfl)
theorem x35_135 (l0 l1 l2 : Value) (s0 : Int32) (s1 : Nat) (H : HS) : rn 35 135 [l0, l1, l2] [.int s0, .ref s1] H = pk 35 138 [l0, l1, l2] [] (pfd H true 1 11 s1 (.int s0)) := (rn_ev ..).trans (ev_pk rfl)
theorem x35_138 (l1 l2 : Value) (l0 : Nat) (H : HS) : rn 35 138 [.ref l0, l1, l2] [] H = rn 35 139 [.ref l0, l1, l2] [.ref l0] H := rn_nx rfl
theorem x35_139 (l0 l2 : Value) (l1 : Nat) (s0 : Nat) (H : HS) : rn 35 139 [l0, .ref l1, l2] [.ref s0] H = rn 35 140 [l0, .ref l1, l2] [.ref l1, .ref s0] H := rn_nx rfl
theorem x35_140 (l0 l1 l2 : Value) (s0 : Nat) (s1 : Nat) (H : HS) : rn 35 140 [l0, l1, l2] [.ref s0, .ref s1] H = gk 35 143 [l0, l1, l2] [.ref s1] H (gfd H 1 12 s0) := (rn_ev ..).trans (ev_gk rfl)
theorem x35_143 (l0 l1 l2 : Value) (s0 : Int32) (s1 : Nat) (H : HS) : rn 35 143 [l0, l1, l2] [.int s0, .ref s1] H = pk 35 146 [l0, l1, l2] [] (pfd H true 1 12 s1 (.int s0)) := (rn_ev ..).trans (ev_pk rfl)
theorem x35_146 (l0 l1 l2 : Value) (H : HS) : rn 35 146 [l0, l1, l2] [] H = some (.inl none, H) := rn_end rfl
theorem c35 (a0 : Nat) (a1 : Nat) (H : HS) : rcal 35 [.ref a0, .ref a1] H = rn 35 0 [.ref a0, .ref a1, un] [] H := rfl
theorem x36_0 (l0 l1 l2 l3 l4 : Value) (H : HS) : rn 36 0 [l0, l1, l2, l3, l4] [] H = rn 36 3 [l0, l1, l2, l3, l4] [.ref 13] H := rn_nx rfl
theorem x36_3 (l0 l2 l3 l4 : Value) (l1 : Nat) (s0 : Nat) (H : HS) : rn 36 3 [l0, .ref l1, l2, l3, l4] [.ref s0] H = rn 36 4 [l0, .ref l1, l2, l3, l4] [.ref l1, .ref s0] H := rn_nx rfl
theorem x36_4 (l0 l1 l2 l3 l4 : Value) (s0 : Nat) (s1 : Nat) (H : HS) (h : recv H s0 8 = true) : rn 36 4 [l0, l1, l2, l3, l4] [.ref s0, .ref s1] H = bnd false 36 4 [l0, l1, l2, l3, l4] [.ref s1] (rcal 9 [.ref s0] H) := rn_cal (vcal h rfl)
theorem x36_7 (l0 l1 l2 l3 l4 : Value) (s0 : Int32) (s1 : Nat) (H : HS) : rn 36 7 [l0, l1, l2, l3, l4] [.int s0, .ref s1] H = gk 36 8 [l0, l1, l2, l3, l4] [] H (ald H 100 s1 s0) := (rn_ev ..).trans (ev_gk rfl)
theorem x36_8_1 (l0 l1 l2 l3 l4 : Value) (H : HS) : rn 36 8 [l0, l1, l2, l3, l4] [.int 1] H = rn 36 48 [l0, l1, l2, l3, l4] [] H := rn_nx rfl
theorem x36_8_2 (l0 l1 l2 l3 l4 : Value) (H : HS) : rn 36 8 [l0, l1, l2, l3, l4] [.int 2] H = rn 36 55 [l0, l1, l2, l3, l4] [] H := rn_nx rfl
theorem x36_8_3 (l0 l1 l2 l3 l4 : Value) (H : HS) : rn 36 8 [l0, l1, l2, l3, l4] [.int 3] H = rn 36 62 [l0, l1, l2, l3, l4] [] H := rn_nx rfl
theorem x36_8_4 (l0 l1 l2 l3 l4 : Value) (H : HS) : rn 36 8 [l0, l1, l2, l3, l4] [.int 4] H = rn 36 71 [l0, l1, l2, l3, l4] [] H := rn_nx rfl
theorem x36_8_5 (l0 l1 l2 l3 l4 : Value) (H : HS) : rn 36 8 [l0, l1, l2, l3, l4] [.int 5] H = rn 36 78 [l0, l1, l2, l3, l4] [] H := rn_nx rfl
theorem x36_8_6 (l0 l1 l2 l3 l4 : Value) (H : HS) : rn 36 8 [l0, l1, l2, l3, l4] [.int 6] H = rn 36 85 [l0, l1, l2, l3, l4] [] H := rn_nx rfl
theorem x36_8_d (l0 l1 l2 l3 l4 : Value) (H : HS) (v : Int32) (h : v.toInt < 1 ∨ 6 < v.toInt) : rn 36 8 [l0, l1, l2, l3, l4] [.int v] H = rn 36 91 [l0, l1, l2, l3, l4] [] H := (rn_ev ..).trans (ev_ifp h rfl)
theorem x36_91 (l1 l2 l3 l4 : Value) (l0 : Nat) (H : HS) : rn 36 91 [.ref l0, l1, l2, l3, l4] [] H = rn 36 92 [.ref l0, l1, l2, l3, l4] [.ref l0] H := rn_nx rfl
theorem x36_92 (l0 l1 l3 l4 : Value) (l2 : Int32) (s0 : Nat) (H : HS) : rn 36 92 [l0, l1, .int l2, l3, l4] [.ref s0] H = rn 36 93 [l0, l1, .int l2, l3, l4] [.int l2, .ref s0] H := rn_nx rfl
theorem x36_93 (l0 l1 l2 l3 l4 : Value) (s0 : Int32) (s1 : Nat) (H : HS) (h : recv H s1 1 = true) : rn 36 93 [l0, l1, l2, l3, l4] [.int s0, .ref s1] H = bnd true 36 93 [l0, l1, l2, l3, l4] [] (rcal 42 [.ref s1, .int s0] H) := rn_cal (vcal h rfl)
theorem x36_96 (l0 l1 l2 l3 l4 : Value) (s0 : Int32) (H : HS) : rn 36 96 [l0, l1, l2, l3, l4] [.int s0] H = some (.inl (some (.int s0)), H) := rn_end rfl
theorem x36_85 (l1 l2 l3 l4 : Value) (l0 : Nat) (H : HS) : rn 36 85 [.ref l0, l1, l2, l3, l4] [] H = rn 36 86 [.ref l0, l1, l2, l3, l4] [.ref l0] H := rn_nx rfl
theorem x36_86 (l0 l1 l3 l4 : Value) (l2 : Int32) (s0 : Nat) (H : HS) : rn 36 86 [l0, l1, .int l2, l3, l4] [.ref s0] H = rn 36 87 [l0, l1, .int l2, l3, l4] [.int l2, .ref s0] H := rn_nx rfl
theorem x36_87 (l0 l1 l2 l3 l4 : Value) (s0 : Int32) (s1 : Nat) (H : HS) (h : recv H s1 1 = true) : rn 36 87 [l0, l1, l2, l3, l4] [.int s0, .ref s1] H = bnd true 36 87 [l0, l1, l2, l3, l4] [] (rcal 41 [.ref s1, .int s0] H) := rn_cal (vcal h rfl)
theorem x36_90 (l0 l1 l2 l3 l4 : Value) (s0 : Int32) (H : HS) : rn 36 90 [l0, l1, l2, l3, l4] [.int s0] H = some (.inl (some (.int s0)), H) := rn_end rfl
theorem x36_78 (l1 l2 l3 l4 : Value) (l0 : Nat) (H : HS) : rn 36 78 [.ref l0, l1, l2, l3, l4] [] H = rn 36 79 [.ref l0, l1, l2, l3, l4] [.ref l0] H := rn_nx rfl
theorem x36_79 (l0 l1 l3 l4 : Value) (l2 : Int32) (s0 : Nat) (H : HS) : rn 36 79 [l0, l1, .int l2, l3, l4] [.ref s0] H = rn 36 80 [l0, l1, .int l2, l3, l4] [.int l2, .ref s0] H := rn_nx rfl
theorem x36_80 (l0 l1 l2 l3 l4 : Value) (s0 : Int32) (s1 : Nat) (H : HS) : rn 36 80 [l0, l1, l2, l3, l4] [.int s0, .ref s1] H = rn 36 81 [l0, l1, l2, l3, l4] [.int 0, .int s0, .ref s1] H := rn_nx rfl
theorem x36_81 (l0 l1 l2 l3 l4 : Value) (s0 : Int32) (s1 : Int32) (s2 : Nat) (H : HS) (h : recv H s2 1 = true) : rn 36 81 [l0, l1, l2, l3, l4] [.int s0, .int s1, .ref s2] H = bnd true 36 81 [l0, l1, l2, l3, l4] [] (rcal 40 [.ref s2, .int s1, .int s0] H) := rn_cal (vcal h rfl)
theorem x36_84 (l0 l1 l2 l3 l4 : Value) (s0 : Int32) (H : HS) : rn 36 84 [l0, l1, l2, l3, l4] [.int s0] H = some (.inl (some (.int s0)), H) := rn_end rfl
theorem x36_71 (l1 l2 l3 l4 : Value) (l0 : Nat) (H : HS) : rn 36 71 [.ref l0, l1, l2, l3, l4] [] H = rn 36 72 [.ref l0, l1, l2, l3, l4] [.ref l0] H := rn_nx rfl
theorem x36_72 (l0 l1 l3 l4 : Value) (l2 : Int32) (s0 : Nat) (H : HS) : rn 36 72 [l0, l1, .int l2, l3, l4] [.ref s0] H = rn 36 73 [l0, l1, .int l2, l3, l4] [.int l2, .ref s0] H := rn_nx rfl
theorem x36_73 (l0 l1 l2 l3 l4 : Value) (s0 : Int32) (s1 : Nat) (H : HS) : rn 36 73 [l0, l1, l2, l3, l4] [.int s0, .ref s1] H = rn 36 74 [l0, l1, l2, l3, l4] [.int 1, .int s0, .ref s1] H := rn_nx rfl
theorem x36_74 (l0 l1 l2 l3 l4 : Value) (s0 : Int32) (s1 : Int32) (s2 : Nat) (H : HS) (h : recv H s2 1 = true) : rn 36 74 [l0, l1, l2, l3, l4] [.int s0, .int s1, .ref s2] H = bnd true 36 74 [l0, l1, l2, l3, l4] [] (rcal 40 [.ref s2, .int s1, .int s0] H) := rn_cal (vcal h rfl)
theorem x36_77 (l0 l1 l2 l3 l4 : Value) (s0 : Int32) (H : HS) : rn 36 77 [l0, l1, l2, l3, l4] [.int s0] H = some (.inl (some (.int s0)), H) := rn_end rfl
theorem x36_62 (l1 l2 l3 l4 : Value) (l0 : Nat) (H : HS) : rn 36 62 [.ref l0, l1, l2, l3, l4] [] H = rn 36 63 [.ref l0, l1, l2, l3, l4] [.ref l0] H := rn_nx rfl
theorem x36_63 (l0 l1 l3 l4 : Value) (l2 : Int32) (s0 : Nat) (H : HS) : rn 36 63 [l0, l1, .int l2, l3, l4] [.ref s0] H = rn 36 64 [l0, l1, .int l2, l3, l4] [.int l2, .ref s0] H := rn_nx rfl
theorem x36_64 (l0 l1 l2 l4 : Value) (l3 : Int32) (s0 : Int32) (s1 : Nat) (H : HS) : rn 36 64 [l0, l1, l2, .int l3, l4] [.int s0, .ref s1] H = rn 36 65 [l0, l1, l2, .int l3, l4] [.int l3, .int s0, .ref s1] H := rn_nx rfl
theorem x36_65 (l0 l1 l2 l3 : Value) (l4 : Int32) (s0 : Int32) (s1 : Int32) (s2 : Nat) (H : HS) : rn 36 65 [l0, l1, l2, l3, .int l4] [.int s0, .int s1, .ref s2] H = rn 36 67 [l0, l1, l2, l3, .int l4] [.int l4, .int s0, .int s1, .ref s2] H := rn_nx rfl
theorem x36_67 (l0 l1 l2 l3 l4 : Value) (s0 : Int32) (s1 : Int32) (s2 : Int32) (s3 : Nat) (H : HS) (h : recv H s3 1 = true) : rn 36 67 [l0, l1, l2, l3, l4] [.int s0, .int s1, .int s2, .ref s3] H = bnd true 36 67 [l0, l1, l2, l3, l4] [] (rcal 39 [.ref s3, .int s2, .int s1, .int s0] H) := rn_cal (vcal h rfl)
theorem x36_70 (l0 l1 l2 l3 l4 : Value) (s0 : Int32) (H : HS) : rn 36 70 [l0, l1, l2, l3, l4] [.int s0] H = some (.inl (some (.int s0)), H) := rn_end rfl
theorem x36_55 (l1 l2 l3 l4 : Value) (l0 : Nat) (H : HS) : rn 36 55 [.ref l0, l1, l2, l3, l4] [] H = rn 36 56 [.ref l0, l1, l2, l3, l4] [.ref l0] H := rn_nx rfl
theorem x36_56 (l0 l1 l3 l4 : Value) (l2 : Int32) (s0 : Nat) (H : HS) : rn 36 56 [l0, l1, .int l2, l3, l4] [.ref s0] H = rn 36 57 [l0, l1, .int l2, l3, l4] [.int l2, .ref s0] H := rn_nx rfl
theorem x36_57 (l0 l1 l2 l4 : Value) (l3 : Int32) (s0 : Int32) (s1 : Nat) (H : HS) : rn 36 57 [l0, l1, l2, .int l3, l4] [.int s0, .ref s1] H = rn 36 58 [l0, l1, l2, .int l3, l4] [.int l3, .int s0, .ref s1] H := rn_nx rfl
theorem x36_58 (l0 l1 l2 l3 l4 : Value) (s0 : Int32) (s1 : Int32) (s2 : Nat) (H : HS) (h : recv H s2 1 = true) : rn 36 58 [l0, l1, l2, l3, l4] [.int s0, .int s1, .ref s2] H = bnd true 36 58 [l0, l1, l2, l3, l4] [] (rcal 38 [.ref s2, .int s1, .int s0] H) := rn_cal (vcal h rfl)
theorem x36_61 (l0 l1 l2 l3 l4 : Value) (s0 : Int32) (H : HS) : rn 36 61 [l0, l1, l2, l3, l4] [.int s0] H = some (.inl (some (.int s0)), H) := rn_end rfl
theorem x36_48 (l1 l2 l3 l4 : Value) (l0 : Nat) (H : HS) : rn 36 48 [.ref l0, l1, l2, l3, l4] [] H = rn 36 49 [.ref l0, l1, l2, l3, l4] [.ref l0] H := rn_nx rfl
theorem x36_49 (l0 l1 l3 l4 : Value) (l2 : Int32) (s0 : Nat) (H : HS) : rn 36 49 [l0, l1, .int l2, l3, l4] [.ref s0] H = rn 36 50 [l0, l1, .int l2, l3, l4] [.int l2, .ref s0] H := rn_nx rfl
theorem x36_50 (l0 l1 l2 l4 : Value) (l3 : Int32) (s0 : Int32) (s1 : Nat) (H : HS) : rn 36 50 [l0, l1, l2, .int l3, l4] [.int s0, .ref s1] H = rn 36 51 [l0, l1, l2, .int l3, l4] [.int l3, .int s0, .ref s1] H := rn_nx rfl
theorem x36_51 (l0 l1 l2 l3 l4 : Value) (s0 : Int32) (s1 : Int32) (s2 : Nat) (H : HS) (h : recv H s2 1 = true) : rn 36 51 [l0, l1, l2, l3, l4] [.int s0, .int s1, .ref s2] H = bnd true 36 51 [l0, l1, l2, l3, l4] [] (rcal 37 [.ref s2, .int s1, .int s0] H) := rn_cal (vcal h rfl)
theorem x36_54 (l0 l1 l2 l3 l4 : Value) (s0 : Int32) (H : HS) : rn 36 54 [l0, l1, l2, l3, l4] [.int s0] H = some (.inl (some (.int s0)), H) := rn_end rfl
theorem c36 (a0 : Nat) (a1 : Nat) (a2 : Int32) (a3 : Int32) (a4 : Int32) (H : HS) : rcal 36 [.ref a0, .ref a1, .int a2, .int a3, .int a4] H = rn 36 0 [.ref a0, .ref a1, .int a2, .int a3, .int a4] [] H := rfl
theorem x37_0 (l0 l2 l3 : Value) (l1 : Int32) (H : HS) : rn 37 0 [l0, .int l1, l2, l3] [] H = rn 37 1 [l0, .int l1, l2, l3] [.int l1] H := rn_nx rfl
theorem x37_1 (l0 l1 l2 l3 : Value) (s0 : Int32) (H : HS) : rn 37 1 [l0, l1, l2, l3] [.int s0] H = bnd true 37 1 [l0, l1, l2, l3] [] (rcal 57 [.int s0] H) := rn_cal rfl
theorem x37_4 (l0 l1 l2 l3 : Value) (s0 : Int32) (H : HS) : rn 37 4 [l0, l1, l2, l3] [.int s0] H = if s0 = 0 then rn 37 18 [l0, l1, l2, l3] [] H else rn 37 7 [l0, l1, l2, l3] [] H := (rn_ev ..).trans (ev_bif rfl)
theorem x37_7 (l0 l1 l3 : Value) (l2 : Int32) (H : HS) : rn 37 7 [l0, l1, .int l2, l3] [] H = rn 37 8 [l0, l1, .int l2, l3] [.int l2] H := rn_nx rfl
theorem x37_8 (l0 l1 l2 l3 : Value) (s0 : Int32) (H : HS) : rn 37 8 [l0, l1, l2, l3] [.int s0] H = rn 37 9 [l0, l1, l2, l3] [.int 1, .int s0] H := rn_nx rfl
theorem x37_9 (l0 l1 l2 l3 : Value) (s0 : Int32) (s1 : Int32) (H : HS) : rn 37 9 [l0, l1, l2, l3] [.int s0, .int s1] H = if s1 < s0 then rn 37 18 [l0, l1, l2, l3] [] H else rn 37 12 [l0, l1, l2, l3] [] H := (rn_ev ..).trans (ev_bif rfl)
theorem x37_12 (l0 l1 l3 : Value) (l2 : Int32) (H : HS) : rn 37 12 [l0, l1, .int l2, l3] [] H = rn 37 13 [l0, l1, .int l2, l3] [.int l2] H := rn_nx rfl
theorem x37_13 (l0 l1 l2 l3 : Value) (s0 : Int32) (H : HS) : rn 37 13 [l0, l1, l2, l3] [.int s0] H = rn 37 15 [l0, l1, l2, l3] [.int 30, .int s0] H := rn_nx rfl
theorem x37_15 (l0 l1 l2 l3 : Value) (s0 : Int32) (s1 : Int32) (H : HS) : rn 37 15 [l0, l1, l2, l3] [.int s0, .int s1] H = if s0 < s1 then rn 37 18 [l0, l1, l2, l3] [] H else rn 37 21 [l0, l1, l2, l3] [] H := (rn_ev ..).trans (ev_bin rfl)
theorem x37_18 (l0 l1 l2 l3 : Value) (H : HS) : rn 37 18 [l0, l1, l2, l3] [] H = rn 37 20 [l0, l1, l2, l3] [.int (-2)] H := rn_nx rfl
theorem x37_20 (l0 l1 l2 l3 : Value) (s0 : Int32) (H : HS) : rn 37 20 [l0, l1, l2, l3] [.int s0] H = some (.inl (some (.int s0)), H) := rn_end rfl
theorem x37_21 (l1 l2 l3 : Value) (l0 : Nat) (H : HS) : rn 37 21 [.ref l0, l1, l2, l3] [] H = rn 37 22 [.ref l0, l1, l2, l3] [.ref l0] H := rn_nx rfl
theorem x37_22 (l0 l1 l2 l3 : Value) (s0 : Nat) (H : HS) : rn 37 22 [l0, l1, l2, l3] [.ref s0] H = gk 37 25 [l0, l1, l2, l3] [] H (gfd H 1 0 s0) := (rn_ev ..).trans (ev_gk rfl)
theorem x37_25 (l0 l1 l2 l3 : Value) (s0 : Int32) (H : HS) : rn 37 25 [l0, l1, l2, l3] [.int s0] H = rn 37 26 [l0, l1, (kl l2), .int s0] [] H := rn_nx rfl
theorem x37_26 (l0 l1 l2 : Value) (l3 : Int32) (H : HS) : rn 37 26 [l0, l1, l2, .int l3] [] H = rn 37 27 [l0, l1, l2, .int l3] [.int l3] H := rn_nx rfl
theorem x37_27 (l0 l1 l2 l3 : Value) (s0 : Int32) (H : HS) : rn 37 27 [l0, l1, l2, l3] [.int s0] H = rn 37 29 [l0, l1, l2, l3] [.int 7, .int s0] H := rn_nx rfl
theorem x37_29 (l0 l1 l2 l3 : Value) (s0 : Int32) (s1 : Int32) (H : HS) : rn 37 29 [l0, l1, l2, l3] [.int s0, .int s1] H = if s1 < s0 then rn 37 35 [l0, l1, l2, l3] [] H else rn 37 32 [l0, l1, l2, l3] [] H := (rn_ev ..).trans (ev_bif rfl)
theorem x37_32 (l0 l1 l2 l3 : Value) (H : HS) : rn 37 32 [l0, l1, l2, l3] [] H = rn 37 34 [l0, l1, l2, l3] [.int (-3)] H := rn_nx rfl
theorem x37_34 (l0 l1 l2 l3 : Value) (s0 : Int32) (H : HS) : rn 37 34 [l0, l1, l2, l3] [.int s0] H = some (.inl (some (.int s0)), H) := rn_end rfl
theorem x37_35 (l1 l2 l3 : Value) (l0 : Nat) (H : HS) : rn 37 35 [.ref l0, l1, l2, l3] [] H = rn 37 36 [.ref l0, l1, l2, l3] [.ref l0] H := rn_nx rfl
theorem x37_36 (l0 l1 l2 l3 : Value) (s0 : Nat) (H : HS) : rn 37 36 [l0, l1, l2, l3] [.ref s0] H = gk 37 39 [l0, l1, l2, l3] [] H (gfd H 1 1 s0) := (rn_ev ..).trans (ev_gk rfl)
theorem x37_39 (l0 l1 l2 : Value) (l3 : Int32) (s0 : Nat) (H : HS) : rn 37 39 [l0, l1, l2, .int l3] [.ref s0] H = rn 37 40 [l0, l1, l2, .int l3] [.int l3, .ref s0] H := rn_nx rfl
theorem x37_40 (l0 l2 l3 : Value) (l1 : Int32) (s0 : Int32) (s1 : Nat) (H : HS) : rn 37 40 [l0, .int l1, l2, l3] [.int s0, .ref s1] H = rn 37 41 [l0, .int l1, l2, l3] [.int l1, .int s0, .ref s1] H := rn_nx rfl
theorem x37_41 (l0 l1 l2 l3 : Value) (s0 : Int32) (s1 : Int32) (s2 : Nat) (H : HS) : rn 37 41 [l0, l1, l2, l3] [.int s0, .int s1, .ref s2] H = pk 37 42 [l0, l1, l2, l3] [] (ast H 100 s2 s1 (.int s0)) := (rn_ev ..).trans (ev_pk rfl)
theorem x37_42 (l0 l1 l2 : Value) (l3 : Int32) (H : HS) : rn 37 42 [l0, l1, l2, .int l3] [] H = rn 37 43 [l0, l1, l2, .int l3] [.int l3] H := rn_nx rfl
theorem x37_43 (l0 l1 l2 l3 : Value) (s0 : Int32) (H : HS) : rn 37 43 [l0, l1, l2, l3] [.int s0] H = if 0 < s0 then rn 37 46 [l0, l1, l2, l3] [] H else rn 37 71 [l0, l1, l2, l3] [] H := (rn_ev ..).trans (ev_bin rfl)
theorem x37_46 (l1 l2 l3 : Value) (l0 : Nat) (H : HS) : rn 37 46 [.ref l0, l1, l2, l3] [] H = rn 37 47 [.ref l0, l1, l2, l3] [.ref l0] H := rn_nx rfl
theorem x37_47 (l0 l1 l2 l3 : Value) (s0 : Nat) (H : HS) : rn 37 47 [l0, l1, l2, l3] [.ref s0] H = gk 37 50 [l0, l1, l2, l3] [] H (gfd H 1 2 s0) := (rn_ev ..).trans (ev_gk rfl)
theorem x37_50 (l0 l1 l2 : Value) (l3 : Int32) (s0 : Nat) (H : HS) : rn 37 50 [l0, l1, l2, .int l3] [.ref s0] H = rn 37 51 [l0, l1, l2, .int l3] [.int l3, .ref s0] H := rn_nx rfl
theorem x37_51 (l0 l1 l2 l3 : Value) (s0 : Int32) (s1 : Nat) (H : HS) : rn 37 51 [l0, l1, l2, l3] [.int s0, .ref s1] H = rn 37 52 [l0, l1, l2, l3] [.int 1, .int s0, .ref s1] H := rn_nx rfl
theorem x37_52 (l0 l1 l2 l3 : Value) (s0 : Int32) (s1 : Int32) (s2 : Nat) (H : HS) : rn 37 52 [l0, l1, l2, l3] [.int s0, .int s1, .ref s2] H = rn 37 53 [l0, l1, l2, l3] [.int (s1 - s0), .ref s2] H := rn_nx rfl
theorem x37_53 (l0 l1 l3 : Value) (l2 : Int32) (s0 : Int32) (s1 : Nat) (H : HS) : rn 37 53 [l0, l1, .int l2, l3] [.int s0, .ref s1] H = rn 37 54 [l0, l1, .int l2, l3] [.int l2, .int s0, .ref s1] H := rn_nx rfl
theorem x37_54 (l0 l1 l2 l3 : Value) (s0 : Int32) (s1 : Int32) (s2 : Nat) (H : HS) : rn 37 54 [l0, l1, l2, l3] [.int s0, .int s1, .ref s2] H = pk 37 55 [l0, l1, l2, l3] [] (ast H 100 s2 s1 (.int s0)) := (rn_ev ..).trans (ev_pk rfl)
theorem x37_55 (l1 l2 l3 : Value) (l0 : Nat) (H : HS) : rn 37 55 [.ref l0, l1, l2, l3] [] H = rn 37 56 [.ref l0, l1, l2, l3] [.ref l0] H := rn_nx rfl
theorem x37_56 (l0 l1 l2 l3 : Value) (s0 : Nat) (H : HS) : rn 37 56 [l0, l1, l2, l3] [.ref s0] H = gk 37 59 [l0, l1, l2, l3] [] H (gfd H 1 3 s0) := (rn_ev ..).trans (ev_gk rfl)
theorem x37_59 (l0 l1 l2 : Value) (l3 : Int32) (s0 : Nat) (H : HS) : rn 37 59 [l0, l1, l2, .int l3] [.ref s0] H = rn 37 60 [l0, l1, l2, .int l3] [.int l3, .ref s0] H := rn_nx rfl
theorem x37_60 (l1 l2 l3 : Value) (l0 : Nat) (s0 : Int32) (s1 : Nat) (H : HS) : rn 37 60 [.ref l0, l1, l2, l3] [.int s0, .ref s1] H = rn 37 61 [.ref l0, l1, l2, l3] [.ref l0, .int s0, .ref s1] H := rn_nx rfl
theorem x37_61 (l0 l1 l2 l3 : Value) (s0 : Nat) (s1 : Int32) (s2 : Nat) (H : HS) : rn 37 61 [l0, l1, l2, l3] [.ref s0, .int s1, .ref s2] H = gk 37 64 [l0, l1, l2, l3] [.int s1, .ref s2] H (gfd H 1 3 s0) := (rn_ev ..).trans (ev_gk rfl)
theorem x37_64 (l0 l1 l2 : Value) (l3 : Int32) (s0 : Nat) (s1 : Int32) (s2 : Nat) (H : HS) : rn 37 64 [l0, l1, l2, .int l3] [.ref s0, .int s1, .ref s2] H = rn 37 65 [l0, l1, l2, .int l3] [.int l3, .ref s0, .int s1, .ref s2] H := rn_nx rfl
theorem x37_65 (l0 l1 l2 l3 : Value) (s0 : Int32) (s1 : Nat) (s2 : Int32) (s3 : Nat) (H : HS) : rn 37 65 [l0, l1, l2, l3] [.int s0, .ref s1, .int s2, .ref s3] H = rn 37 66 [l0, l1, l2, l3] [.int 1, .int s0, .ref s1, .int s2, .ref s3] H := rn_nx rfl
theorem x37_66 (l0 l1 l2 l3 : Value) (s0 : Int32) (s1 : Int32) (s2 : Nat) (s3 : Int32) (s4 : Nat) (H : HS) : rn 37 66 [l0, l1, l2, l3] [.int s0, .int s1, .ref s2, .int s3, .ref s4] H = rn 37 67 [l0, l1, l2, l3] [.int (s1 - s0), .ref s2, .int s3, .ref s4] H := rn_nx rfl
theorem x37_67 (l0 l1 l2 l3 : Value) (s0 : Int32) (s1 : Nat) (s2 : Int32) (s3 : Nat) (H : HS) : rn 37 67 [l0, l1, l2, l3] [.int s0, .ref s1, .int s2, .ref s3] H = gk 37 68 [l0, l1, l2, l3] [.int s2, .ref s3] H (ald H 100 s1 s0) := (rn_ev ..).trans (ev_gk rfl)
theorem x37_68 (l0 l1 l3 : Value) (l2 : Int32) (s0 : Int32) (s1 : Int32) (s2 : Nat) (H : HS) : rn 37 68 [l0, l1, .int l2, l3] [.int s0, .int s1, .ref s2] H = rn 37 69 [l0, l1, .int l2, l3] [.int l2, .int s0, .int s1, .ref s2] H := rn_nx rfl
theorem x37_69 (l0 l1 l2 l3 : Value) (s0 : Int32) (s1 : Int32) (s2 : Int32) (s3 : Nat) (H : HS) : rn 37 69 [l0, l1, l2, l3] [.int s0, .int s1, .int s2, .ref s3] H = rn 37 70 [l0, l1, l2, l3] [.int (s1 + s0), .int s2, .ref s3] H := rn_nx rfl
theorem x37_70 (l0 l1 l2 l3 : Value) (s0 : Int32) (s1 : Int32) (s2 : Nat) (H : HS) : rn 37 70 [l0, l1, l2, l3] [.int s0, .int s1, .ref s2] H = pk 37 71 [l0, l1, l2, l3] [] (ast H 100 s2 s1 (.int s0)) := (rn_ev ..).trans (ev_pk rfl)
theorem x37_71 (l1 l2 l3 : Value) (l0 : Nat) (H : HS) : rn 37 71 [.ref l0, l1, l2, l3] [] H = rn 37 72 [.ref l0, l1, l2, l3] [.ref l0] H := rn_nx rfl
theorem x37_72 (l0 l1 l2 l3 : Value) (s0 : Nat) (H : HS) : rn 37 72 [l0, l1, l2, l3] [.ref s0] H = rn 37 73 [l0, l1, l2, l3] [.ref s0, .ref s0] H := rn_nx rfl
theorem x37_73 (l0 l1 l2 l3 : Value) (s0 : Nat) (s1 : Nat) (H : HS) : rn 37 73 [l0, l1, l2, l3] [.ref s0, .ref s1] H = gk 37 76 [l0, l1, l2, l3] [.ref s1] H (gfd H 1 0 s0) := (rn_ev ..).trans (ev_gk rfl)
theorem x37_76 (l0 l1 l2 l3 : Value) (s0 : Int32) (s1 : Nat) (H : HS) : rn 37 76 [l0, l1, l2, l3] [.int s0, .ref s1] H = rn 37 77 [l0, l1, l2, l3] [.int 1, .int s0, .ref s1] H := rn_nx rfl
theorem x37_77 (l0 l1 l2 l3 : Value) (s0 : Int32) (s1 : Int32) (s2 : Nat) (H : HS) : rn 37 77 [l0, l1, l2, l3] [.int s0, .int s1, .ref s2] H = rn 37 78 [l0, l1, l2, l3] [.int (s1 + s0), .ref s2] H := rn_nx rfl
theorem x37_78 (l0 l1 l2 l3 : Value) (s0 : Int32) (s1 : Nat) (H : HS) : rn 37 78 [l0, l1, l2, l3] [.int s0, .ref s1] H = pk 37 81 [l0, l1, l2, l3] [] (pfd H true 1 0 s1 (.int s0)) := (rn_ev ..).trans (ev_pk rfl)
theorem x37_81 (l0 l1 l2 : Value) (l3 : Int32) (H : HS) : rn 37 81 [l0, l1, l2, .int l3] [] H = rn 37 82 [l0, l1, l2, .int l3] [.int l3] H := rn_nx rfl
theorem x37_82 (l0 l1 l2 l3 : Value) (s0 : Int32) (H : HS) : rn 37 82 [l0, l1, l2, l3] [.int s0] H = some (.inl (some (.int s0)), H) := rn_end rfl
theorem c37 (a0 : Nat) (a1 : Int32) (a2 : Int32) (H : HS) : rcal 37 [.ref a0, .int a1, .int a2] H = rn 37 0 [.ref a0, .int a1, .int a2, un] [] H := rfl
theorem x38_0 (l1 l2 l3 : Value) (l0 : Nat) (H : HS) : rn 38 0 [.ref l0, l1, l2, l3] [] H = rn 38 1 [.ref l0, l1, l2, l3] [.ref l0] H := rn_nx rfl
theorem x38_1 (l0 l2 l3 : Value) (l1 : Int32) (s0 : Nat) (H : HS) : rn 38 1 [l0, .int l1, l2, l3] [.ref s0] H = rn 38 2 [l0, .int l1, l2, l3] [.int l1, .ref s0] H := rn_nx rfl
theorem x38_2 (l0 l1 l2 l3 : Value) (s0 : Int32) (s1 : Nat) (H : HS) (h : recv H s1 1 = true) : rn 38 2 [l0, l1, l2, l3] [.int s0, .ref s1] H = bnd true 38 2 [l0, l1, l2, l3] [] (rcal 55 [.ref s1, .int s0] H) := rn_cal (vcal h rfl)
theorem x38_5 (l0 l1 l2 l3 : Value) (s0 : Int32) (H : HS) : rn 38 5 [l0, l1, l2, l3] [.int s0] H = if s0 = 0 then rn 38 8 [l0, l1, l2, l3] [] H else rn 38 10 [l0, l1, l2, l3] [] H := (rn_ev ..).trans (ev_bin rfl)
theorem x38_8 (l0 l1 l2 l3 : Value) (H : HS) : rn 38 8 [l0, l1, l2, l3] [] H = rn 38 9 [l0, l1, l2, l3] [.int (-1)] H := rn_nx rfl
theorem x38_9 (l0 l1 l2 l3 : Value) (s0 : Int32) (H : HS) : rn 38 9 [l0, l1, l2, l3] [.int s0] H = some (.inl (some (.int s0)), H) := rn_end rfl
theorem x38_10 (l0 l1 l3 : Value) (l2 : Int32) (H : HS) : rn 38 10 [l0, l1, .int l2, l3] [] H = rn 38 11 [l0, l1, .int l2, l3] [.int l2] H := rn_nx rfl
theorem x38_11 (l0 l1 l2 l3 : Value) (s0 : Int32) (H : HS) : rn 38 11 [l0, l1, l2, l3] [.int s0] H = bnd true 38 11 [l0, l1, l2, l3] [] (rcal 57 [.int s0] H) := rn_cal rfl
theorem x38_14 (l0 l1 l2 l3 : Value) (s0 : Int32) (H : HS) : rn 38 14 [l0, l1, l2, l3] [.int s0] H = if s0 = 0 then rn 38 17 [l0, l1, l2, l3] [] H else rn 38 20 [l0, l1, l2, l3] [] H := (rn_ev ..).trans (ev_bin rfl)
theorem x38_17 (l0 l1 l2 l3 : Value) (H : HS) : rn 38 17 [l0, l1, l2, l3] [] H = rn 38 19 [l0, l1, l2, l3] [.int (-2)] H := rn_nx rfl
theorem x38_19 (l0 l1 l2 l3 : Value) (s0 : Int32) (H : HS) : rn 38 19 [l0, l1, l2, l3] [.int s0] H = some (.inl (some (.int s0)), H) := rn_end rfl
theorem x38_20 (l1 l2 l3 : Value) (l0 : Nat) (H : HS) : rn 38 20 [.ref l0, l1, l2, l3] [] H = rn 38 21 [.ref l0, l1, l2, l3] [.ref l0] H := rn_nx rfl
theorem x38_21 (l0 l1 l2 l3 : Value) (s0 : Nat) (H : HS) : rn 38 21 [l0, l1, l2, l3] [.ref s0] H = gk 38 24 [l0, l1, l2, l3] [] H (gfd H 1 1 s0) := (rn_ev ..).trans (ev_gk rfl)
theorem x38_24 (l0 l2 l3 : Value) (l1 : Int32) (s0 : Nat) (H : HS) : rn 38 24 [l0, .int l1, l2, l3] [.ref s0] H = rn 38 25 [l0, .int l1, l2, l3] [.int l1, .ref s0] H := rn_nx rfl
theorem x38_25 (l0 l1 l2 l3 : Value) (s0 : Int32) (s1 : Nat) (H : HS) : rn 38 25 [l0, l1, l2, l3] [.int s0, .ref s1] H = gk 38 26 [l0, l1, l2, l3] [] H (ald H 100 s1 s0) := (rn_ev ..).trans (ev_gk rfl)
theorem x38_26 (l0 l1 l2 l3 : Value) (s0 : Int32) (H : HS) : rn 38 26 [l0, l1, l2, l3] [.int s0] H = rn 38 27 [l0, l1, (kl l2), .int s0] [] H := rn_nx rfl
theorem x38_27 (l0 l1 l2 : Value) (l3 : Int32) (H : HS) : rn 38 27 [l0, l1, l2, .int l3] [] H = rn 38 28 [l0, l1, l2, .int l3] [.int l3] H := rn_nx rfl
theorem x38_28 (l1 l2 l3 : Value) (l0 : Nat) (s0 : Int32) (H : HS) : rn 38 28 [.ref l0, l1, l2, l3] [.int s0] H = rn 38 29 [.ref l0, l1, l2, l3] [.ref l0, .int s0] H := rn_nx rfl
theorem x38_29 (l0 l2 l3 : Value) (l1 : Int32) (s0 : Nat) (s1 : Int32) (H : HS) : rn 38 29 [l0, .int l1, l2, l3] [.ref s0, .int s1] H = rn 38 30 [l0, .int l1, l2, l3] [.int l1, .ref s0, .int s1] H := rn_nx rfl
theorem x38_30 (l0 l1 l2 l3 : Value) (s0 : Int32) (s1 : Nat) (s2 : Int32) (H : HS) (h : recv H s1 1 = true) : rn 38 30 [l0, l1, l2, l3] [.int s0, .ref s1, .int s2] H = bnd true 38 30 [l0, l1, l2, l3] [.int s2] (rcal 60 [.ref s1, .int s0] H) := rn_cal (vcal h rfl)
theorem x38_33 (l0 l1 l2 l3 : Value) (s0 : Int32) (s1 : Int32) (H : HS) : rn 38 33 [l0, l1, l2, l3] [.int s0, .int s1] H = rn 38 34 [l0, l1, l2, l3] [.int (s1 - s0)] H := rn_nx rfl
theorem x38_34 (l0 l1 l3 : Value) (l2 : Int32) (s0 : Int32) (H : HS) : rn 38 34 [l0, l1, .int l2, l3] [.int s0] H = rn 38 35 [l0, l1, .int l2, l3] [.int l2, .int s0] H := rn_nx rfl
theorem x38_35 (l0 l1 l2 l3 : Value) (s0 : Int32) (s1 : Int32) (H : HS) : rn 38 35 [l0, l1, l2, l3] [.int s0, .int s1] H = if s0 < s1 then rn 38 38 [l0, l1, l2, l3] [] H else rn 38 41 [l0, l1, l2, l3] [] H := (rn_ev ..).trans (ev_bin rfl)
theorem x38_38 (l0 l1 l2 l3 : Value) (H : HS) : rn 38 38 [l0, l1, l2, l3] [] H = rn 38 40 [l0, l1, l2, l3] [.int (-3)] H := rn_nx rfl
theorem x38_40 (l0 l1 l2 l3 : Value) (s0 : Int32) (H : HS) : rn 38 40 [l0, l1, l2, l3] [.int s0] H = some (.inl (some (.int s0)), H) := rn_end rfl
theorem x38_41 (l1 l2 l3 : Value) (l0 : Nat) (H : HS) : rn 38 41 [.ref l0, l1, l2, l3] [] H = rn 38 42 [.ref l0, l1, l2, l3] [.ref l0] H := rn_nx rfl
theorem x38_42 (l0 l1 l2 l3 : Value) (s0 : Nat) (H : HS) : rn 38 42 [l0, l1, l2, l3] [.ref s0] H = gk 38 45 [l0, l1, l2, l3] [] H (gfd H 1 1 s0) := (rn_ev ..).trans (ev_gk rfl)
theorem x38_45 (l0 l2 l3 : Value) (l1 : Int32) (s0 : Nat) (H : HS) : rn 38 45 [l0, .int l1, l2, l3] [.ref s0] H = rn 38 46 [l0, .int l1, l2, l3] [.int l1, .ref s0] H := rn_nx rfl
theorem x38_46 (l0 l1 l3 : Value) (l2 : Int32) (s0 : Int32) (s1 : Nat) (H : HS) : rn 38 46 [l0, l1, .int l2, l3] [.int s0, .ref s1] H = rn 38 47 [l0, l1, .int l2, l3] [.int l2, .int s0, .ref s1] H := rn_nx rfl
theorem x38_47 (l0 l1 l2 l3 : Value) (s0 : Int32) (s1 : Int32) (s2 : Nat) (H : HS) : rn 38 47 [l0, l1, l2, l3] [.int s0, .int s1, .ref s2] H = pk 38 48 [l0, l1, l2, l3] [] (ast H 100 s2 s1 (.int s0)) := (rn_ev ..).trans (ev_pk rfl)
theorem x38_48 (l0 l1 l2 : Value) (l3 : Int32) (H : HS) : rn 38 48 [l0, l1, l2, .int l3] [] H = rn 38 49 [l0, l1, l2, .int l3] [.int l3] H := rn_nx rfl
theorem x38_49 (l0 l1 l2 l3 : Value) (s0 : Int32) (H : HS) : rn 38 49 [l0, l1, l2, l3] [.int s0] H = some (.inl (some (.int s0)), H) := rn_end rfl
theorem c38 (a0 : Nat) (a1 : Int32) (a2 : Int32) (H : HS) : rcal 38 [.ref a0, .int a1, .int a2] H = rn 38 0 [.ref a0, .int a1, .int a2, un] [] H := rfl
theorem x39_0 (l1 l2 l3 l4 : Value) (l0 : Nat) (H : HS) : rn 39 0 [.ref l0, l1, l2, l3, l4] [] H = rn 39 1 [.ref l0, l1, l2, l3, l4] [.ref l0] H := rn_nx rfl
theorem x39_1 (l0 l2 l3 l4 : Value) (l1 : Int32) (s0 : Nat) (H : HS) : rn 39 1 [l0, .int l1, l2, l3, l4] [.ref s0] H = rn 39 2 [l0, .int l1, l2, l3, l4] [.int l1, .ref s0] H := rn_nx rfl
theorem x39_2 (l0 l1 l2 l3 l4 : Value) (s0 : Int32) (s1 : Nat) (H : HS) (h : recv H s1 1 = true) : rn 39 2 [l0, l1, l2, l3, l4] [.int s0, .ref s1] H = bnd true 39 2 [l0, l1, l2, l3, l4] [] (rcal 55 [.ref s1, .int s0] H) := rn_cal (vcal h rfl)
theorem x39_5 (l0 l1 l2 l3 l4 : Value) (s0 : Int32) (H : HS) : rn 39 5 [l0, l1, l2, l3, l4] [.int s0] H = if s0 = 0 then rn 39 16 [l0, l1, l2, l3, l4] [] H else rn 39 8 [l0, l1, l2, l3, l4] [] H := (rn_ev ..).trans (ev_bif rfl)
theorem x39_8 (l1 l2 l3 l4 : Value) (l0 : Nat) (H : HS) : rn 39 8 [.ref l0, l1, l2, l3, l4] [] H = rn 39 9 [.ref l0, l1, l2, l3, l4] [.ref l0] H := rn_nx rfl
theorem x39_9 (l0 l1 l3 l4 : Value) (l2 : Int32) (s0 : Nat) (H : HS) : rn 39 9 [l0, l1, .int l2, l3, l4] [.ref s0] H = rn 39 10 [l0, l1, .int l2, l3, l4] [.int l2, .ref s0] H := rn_nx rfl
theorem x39_10 (l0 l1 l2 l3 l4 : Value) (s0 : Int32) (s1 : Nat) (H : HS) (h : recv H s1 1 = true) : rn 39 10 [l0, l1, l2, l3, l4] [.int s0, .ref s1] H = bnd true 39 10 [l0, l1, l2, l3, l4] [] (rcal 55 [.ref s1, .int s0] H) := rn_cal (vcal h rfl)
theorem x39_13 (l0 l1 l2 l3 l4 : Value) (s0 : Int32) (H : HS) : rn 39 13 [l0, l1, l2, l3, l4] [.int s0] H = if s0 = 0 then rn 39 16 [l0, l1, l2, l3, l4] [] H else rn 39 18 [l0, l1, l2, l3, l4] [] H := (rn_ev ..).trans (ev_bin rfl)
theorem x39_16 (l0 l1 l2 l3 l4 : Value) (H : HS) : rn 39 16 [l0, l1, l2, l3, l4] [] H = rn 39 17 [l0, l1, l2, l3, l4] [.int (-1)] H := rn_nx rfl
theorem x39_17 (l0 l1 l2 l3 l4 : Value) (s0 : Int32) (H : HS) : rn 39 17 [l0, l1, l2, l3, l4] [.int s0] H = some (.inl (some (.int s0)), H) := rn_end rfl
theorem x39_18 (l0 l2 l3 l4 : Value) (l1 : Int32) (H : HS) : rn 39 18 [l0, .int l1, l2, l3, l4] [] H = rn 39 19 [l0, .int l1, l2, l3, l4] [.int l1] H := rn_nx rfl
theorem x39_19 (l0 l1 l3 l4 : Value) (l2 : Int32) (s0 : Int32) (H : HS) : rn 39 19 [l0, l1, .int l2, l3, l4] [.int s0] H = rn 39 20 [l0, l1, .int l2, l3, l4] [.int l2, .int s0] H := rn_nx rfl
theorem x39_20 (l0 l1 l2 l3 l4 : Value) (s0 : Int32) (s1 : Int32) (H : HS) : rn 39 20 [l0, l1, l2, l3, l4] [.int s0, .int s1] H = if s1 = s0 then rn 39 34 [l0, l1, l2, l3, l4] [] H else rn 39 23 [l0, l1, l2, l3, l4] [] H := (rn_ev ..).trans (ev_bif rfl)
theorem x39_23 (l0 l1 l2 l4 : Value) (l3 : Int32) (H : HS) : rn 39 23 [l0, l1, l2, .int l3, l4] [] H = rn 39 24 [l0, l1, l2, .int l3, l4] [.int l3] H := rn_nx rfl
theorem x39_24 (l0 l1 l2 l3 l4 : Value) (s0 : Int32) (H : HS) : rn 39 24 [l0, l1, l2, l3, l4] [.int s0] H = rn 39 25 [l0, l1, l2, l3, l4] [.int 1, .int s0] H := rn_nx rfl
theorem x39_25 (l0 l1 l2 l3 l4 : Value) (s0 : Int32) (s1 : Int32) (H : HS) : rn 39 25 [l0, l1, l2, l3, l4] [.int s0, .int s1] H = if s1 < s0 then rn 39 34 [l0, l1, l2, l3, l4] [] H else rn 39 28 [l0, l1, l2, l3, l4] [] H := (rn_ev ..).trans (ev_bif rfl)
theorem x39_28 (l0 l1 l2 l4 : Value) (l3 : Int32) (H : HS) : rn 39 28 [l0, l1, l2, .int l3, l4] [] H = rn 39 29 [l0, l1, l2, .int l3, l4] [.int l3] H := rn_nx rfl
theorem x39_29 (l0 l1 l2 l3 l4 : Value) (s0 : Int32) (H : HS) : rn 39 29 [l0, l1, l2, l3, l4] [.int s0] H = rn 39 31 [l0, l1, l2, l3, l4] [.int 99, .int s0] H := rn_nx rfl
theorem x39_31 (l0 l1 l2 l3 l4 : Value) (s0 : Int32) (s1 : Int32) (H : HS) : rn 39 31 [l0, l1, l2, l3, l4] [.int s0, .int s1] H = if s0 < s1 then rn 39 34 [l0, l1, l2, l3, l4] [] H else rn 39 37 [l0, l1, l2, l3, l4] [] H := (rn_ev ..).trans (ev_bin rfl)
theorem x39_34 (l0 l1 l2 l3 l4 : Value) (H : HS) : rn 39 34 [l0, l1, l2, l3, l4] [] H = rn 39 36 [l0, l1, l2, l3, l4] [.int (-2)] H := rn_nx rfl
theorem x39_36 (l0 l1 l2 l3 l4 : Value) (s0 : Int32) (H : HS) : rn 39 36 [l0, l1, l2, l3, l4] [.int s0] H = some (.inl (some (.int s0)), H) := rn_end rfl
theorem x39_37 (l1 l2 l3 l4 : Value) (l0 : Nat) (H : HS) : rn 39 37 [.ref l0, l1, l2, l3, l4] [] H = rn 39 38 [.ref l0, l1, l2, l3, l4] [.ref l0] H := rn_nx rfl
theorem x39_38 (l0 l1 l2 l3 l4 : Value) (s0 : Nat) (H : HS) : rn 39 38 [l0, l1, l2, l3, l4] [.ref s0] H = gk 39 41 [l0, l1, l2, l3, l4] [] H (gfd H 1 5 s0) := (rn_ev ..).trans (ev_gk rfl)
theorem x39_41 (l0 l1 l2 l3 l4 : Value) (s0 : Int32) (H : HS) : rn 39 41 [l0, l1, l2, l3, l4] [.int s0] H = rn 39 43 [l0, l1, l2, l3, l4] [.int 6, .int s0] H := rn_nx rfl
theorem x39_43 (l0 l1 l2 l3 l4 : Value) (s0 : Int32) (s1 : Int32) (H : HS) : rn 39 43 [l0, l1, l2, l3, l4] [.int s0, .int s1] H = if s1 < s0 then rn 39 49 [l0, l1, l2, l3, l4] [] H else rn 39 46 [l0, l1, l2, l3, l4] [] H := (rn_ev ..).trans (ev_bif rfl)
theorem x39_46 (l0 l1 l2 l3 l4 : Value) (H : HS) : rn 39 46 [l0, l1, l2, l3, l4] [] H = rn 39 48 [l0, l1, l2, l3, l4] [.int (-3)] H := rn_nx rfl
theorem x39_48 (l0 l1 l2 l3 l4 : Value) (s0 : Int32) (H : HS) : rn 39 48 [l0, l1, l2, l3, l4] [.int s0] H = some (.inl (some (.int s0)), H) := rn_end rfl
theorem x39_49 (l1 l2 l3 l4 : Value) (l0 : Nat) (H : HS) : rn 39 49 [.ref l0, l1, l2, l3, l4] [] H = rn 39 50 [.ref l0, l1, l2, l3, l4] [.ref l0] H := rn_nx rfl
theorem x39_50 (l0 l1 l2 l3 l4 : Value) (s0 : Nat) (H : HS) : rn 39 50 [l0, l1, l2, l3, l4] [.ref s0] H = rn 39 51 [l0, l1, l2, l3, l4] [.ref s0, .ref s0] H := rn_nx rfl
theorem x39_51 (l0 l1 l2 l3 l4 : Value) (s0 : Nat) (s1 : Nat) (H : HS) : rn 39 51 [l0, l1, l2, l3, l4] [.ref s0, .ref s1] H = gk 39 54 [l0, l1, l2, l3, l4] [.ref s1] H (gfd H 1 6 s0) := (rn_ev ..).trans (ev_gk rfl)
theorem x39_54 (l0 l1 l2 l3 l4 : Value) (s0 : Int32) (s1 : Nat) (H : HS) : rn 39 54 [l0, l1, l2, l3, l4] [.int s0, .ref s1] H = rn 39 55 [l0, l1, l2, l3, l4] [.int 1, .int s0, .ref s1] H := rn_nx rfl
theorem x39_55 (l0 l1 l2 l3 l4 : Value) (s0 : Int32) (s1 : Int32) (s2 : Nat) (H : HS) : rn 39 55 [l0, l1, l2, l3, l4] [.int s0, .int s1, .ref s2] H = rn 39 56 [l0, l1, l2, l3, l4] [.int (s1 + s0), .ref s2] H := rn_nx rfl
theorem x39_56 (l0 l1 l2 l3 l4 : Value) (s0 : Int32) (s1 : Nat) (H : HS) : rn 39 56 [l0, l1, l2, l3, l4] [.int s0, .ref s1] H = pk 39 59 [l0, l1, l2, l3, l4] [] (pfd H true 1 6 s1 (.int s0)) := (rn_ev ..).trans (ev_pk rfl)
theorem x39_59 (l1 l2 l3 l4 : Value) (l0 : Nat) (H : HS) : rn 39 59 [.ref l0, l1, l2, l3, l4] [] H = rn 39 60 [.ref l0, l1, l2, l3, l4] [.ref l0] H := rn_nx rfl
theorem x39_60 (l0 l1 l2 l3 l4 : Value) (s0 : Nat) (H : HS) : rn 39 60 [l0, l1, l2, l3, l4] [.ref s0] H = gk 39 63 [l0, l1, l2, l3, l4] [] H (gfd H 1 4 s0) := (rn_ev ..).trans (ev_gk rfl)
theorem x39_63 (l1 l2 l3 l4 : Value) (l0 : Nat) (s0 : Nat) (H : HS) : rn 39 63 [.ref l0, l1, l2, l3, l4] [.ref s0] H = rn 39 64 [.ref l0, l1, l2, l3, l4] [.ref l0, .ref s0] H := rn_nx rfl
theorem x39_64 (l0 l1 l2 l3 l4 : Value) (s0 : Nat) (s1 : Nat) (H : HS) : rn 39 64 [l0, l1, l2, l3, l4] [.ref s0, .ref s1] H = gk 39 67 [l0, l1, l2, l3, l4] [.ref s1] H (gfd H 1 5 s0) := (rn_ev ..).trans (ev_gk rfl)
theorem x39_67 (l0 l1 l2 l3 l4 : Value) (s0 : Int32) (s1 : Nat) (H : HS) : rn 39 67 [l0, l1, l2, l3, l4] [.int s0, .ref s1] H = gk 39 68 [l0, l1, l2, l3, l4] [] H (aald H s1 s0) := (rn_ev ..).trans (ev_gk rfl)
theorem x39_68 (l0 l1 l2 l3 l4 : Value) (s0 : Nat) (H : HS) : rn 39 68 [l0, l1, l2, l3, l4] [.ref s0] H = rn 39 70 [l0, l1, l2, (kl l3), .ref s0] [] H := rn_nx rfl
theorem x39_70 (l1 l2 l3 l4 : Value) (l0 : Nat) (H : HS) : rn 39 70 [.ref l0, l1, l2, l3, l4] [] H = rn 39 71 [.ref l0, l1, l2, l3, l4] [.ref l0] H := rn_nx rfl
theorem x39_71 (l0 l1 l2 l3 l4 : Value) (s0 : Nat) (H : HS) : rn 39 71 [l0, l1, l2, l3, l4] [.ref s0] H = rn 39 72 [l0, l1, l2, l3, l4] [.ref s0, .ref s0] H := rn_nx rfl
theorem x39_72 (l0 l1 l2 l3 l4 : Value) (s0 : Nat) (s1 : Nat) (H : HS) : rn 39 72 [l0, l1, l2, l3, l4] [.ref s0, .ref s1] H = gk 39 75 [l0, l1, l2, l3, l4] [.ref s1] H (gfd H 1 5 s0) := (rn_ev ..).trans (ev_gk rfl)
theorem x39_75 (l0 l1 l2 l3 l4 : Value) (s0 : Int32) (s1 : Nat) (H : HS) : rn 39 75 [l0, l1, l2, l3, l4] [.int s0, .ref s1] H = rn 39 76 [l0, l1, l2, l3, l4] [.int 1, .int s0, .ref s1] H := rn_nx rfl
theorem x39_76 (l0 l1 l2 l3 l4 : Value) (s0 : Int32) (s1 : Int32) (s2 : Nat) (H : HS) : rn 39 76 [l0, l1, l2, l3, l4] [.int s0, .int s1, .ref s2] H = rn 39 77 [l0, l1, l2, l3, l4] [.int (s1 + s0), .ref s2] H := rn_nx rfl
theorem x39_77 (l0 l1 l2 l3 l4 : Value) (s0 : Int32) (s1 : Nat) (H : HS) : rn 39 77 [l0, l1, l2, l3, l4] [.int s0, .ref s1] H = pk 39 80 [l0, l1, l2, l3, l4] [] (pfd H true 1 5 s1 (.int s0)) := (rn_ev ..).trans (ev_pk rfl)
theorem x39_80 (l0 l1 l2 l3 : Value) (l4 : Nat) (H : HS) : rn 39 80 [l0, l1, l2, l3, .ref l4] [] H = rn 39 82 [l0, l1, l2, l3, .ref l4] [.ref l4] H := rn_nx rfl
theorem x39_82 (l0 l1 l2 l3 l4 : Value) (s0 : Nat) (H : HS) : rn 39 82 [l0, l1, l2, l3, l4] [.ref s0] H = rn 39 85 [l0, l1, l2, l3, l4] [.ref 2, .ref s0] H := rn_nx rfl
theorem x39_85 (l0 l1 l2 l3 l4 : Value) (s0 : Nat) (s1 : Nat) (H : HS) : rn 39 85 [l0, l1, l2, l3, l4] [.ref s0, .ref s1] H = pk 39 88 [l0, l1, l2, l3, l4] [] (pfd H true 2 0 s1 (.ref s0)) := (rn_ev ..).trans (ev_pk rfl)
theorem x39_88 (l0 l1 l2 l3 : Value) (l4 : Nat) (H : HS) : rn 39 88 [l0, l1, l2, l3, .ref l4] [] H = rn 39 90 [l0, l1, l2, l3, .ref l4] [.ref l4] H := rn_nx rfl
theorem x39_90 (l1 l2 l3 l4 : Value) (l0 : Nat) (s0 : Nat) (H : HS) : rn 39 90 [.ref l0, l1, l2, l3, l4] [.ref s0] H = rn 39 91 [.ref l0, l1, l2, l3, l4] [.ref l0, .ref s0] H := rn_nx rfl
theorem x39_91 (l0 l1 l2 l3 l4 : Value) (s0 : Nat) (s1 : Nat) (H : HS) : rn 39 91 [l0, l1, l2, l3, l4] [.ref s0, .ref s1] H = gk 39 94 [l0, l1, l2, l3, l4] [.ref s1] H (gfd H 1 6 s0) := (rn_ev ..).trans (ev_gk rfl)
theorem x39_94 (l0 l1 l2 l3 l4 : Value) (s0 : Int32) (s1 : Nat) (H : HS) : rn 39 94 [l0, l1, l2, l3, l4] [.int s0, .ref s1] H = pk 39 97 [l0, l1, l2, l3, l4] [] (pfd H true 2 1 s1 (.int s0)) := (rn_ev ..).trans (ev_pk rfl)
theorem x39_97 (l0 l1 l2 l3 : Value) (l4 : Nat) (H : HS) : rn 39 97 [l0, l1, l2, l3, .ref l4] [] H = rn 39 99 [l0, l1, l2, l3, .ref l4] [.ref l4] H := rn_nx rfl
theorem x39_99 (l0 l2 l3 l4 : Value) (l1 : Int32) (s0 : Nat) (H : HS) : rn 39 99 [l0, .int l1, l2, l3, l4] [.ref s0] H = rn 39 100 [l0, .int l1, l2, l3, l4] [.int l1, .ref s0] H := rn_nx rfl
theorem x39_100 (l0 l1 l2 l3 l4 : Value) (s0 : Int32) (s1 : Nat) (H : HS) : rn 39 100 [l0, l1, l2, l3, l4] [.int s0, .ref s1] H = pk 39 103 [l0, l1, l2, l3, l4] [] (pfd H true 2 2 s1 (.int s0)) := (rn_ev ..).trans (ev_pk rfl)
theorem x39_103 (l0 l1 l2 l3 : Value) (l4 : Nat) (H : HS) : rn 39 103 [l0, l1, l2, l3, .ref l4] [] H = rn 39 105 [l0, l1, l2, l3, .ref l4] [.ref l4] H := rn_nx rfl
theorem x39_105 (l0 l1 l3 l4 : Value) (l2 : Int32) (s0 : Nat) (H : HS) : rn 39 105 [l0, l1, .int l2, l3, l4] [.ref s0] H = rn 39 106 [l0, l1, .int l2, l3, l4] [.int l2, .ref s0] H := rn_nx rfl
theorem x39_106 (l0 l1 l2 l3 l4 : Value) (s0 : Int32) (s1 : Nat) (H : HS) : rn 39 106 [l0, l1, l2, l3, l4] [.int s0, .ref s1] H = pk 39 109 [l0, l1, l2, l3, l4] [] (pfd H true 2 3 s1 (.int s0)) := (rn_ev ..).trans (ev_pk rfl)
theorem x39_109 (l0 l1 l2 l3 : Value) (l4 : Nat) (H : HS) : rn 39 109 [l0, l1, l2, l3, .ref l4] [] H = rn 39 111 [l0, l1, l2, l3, .ref l4] [.ref l4] H := rn_nx rfl
theorem x39_111 (l1 l2 l3 l4 : Value) (l0 : Nat) (s0 : Nat) (H : HS) : rn 39 111 [.ref l0, l1, l2, l3, l4] [.ref s0] H = rn 39 112 [.ref l0, l1, l2, l3, l4] [.ref l0, .ref s0] H := rn_nx rfl
theorem x39_112 (l0 l1 l2 l3 l4 : Value) (s0 : Nat) (s1 : Nat) (H : HS) : rn 39 112 [l0, l1, l2, l3, l4] [.ref s0, .ref s1] H = gk 39 115 [l0, l1, l2, l3, l4] [.ref s1] H (gfd H 1 7 s0) := (rn_ev ..).trans (ev_gk rfl)
theorem x39_115 (l0 l1 l2 l4 : Value) (l3 : Int32) (s0 : Int32) (s1 : Nat) (H : HS) : rn 39 115 [l0, l1, l2, .int l3, l4] [.int s0, .ref s1] H = rn 39 116 [l0, l1, l2, .int l3, l4] [.int l3, .int s0, .ref s1] H := rn_nx rfl
theorem x39_116 (l0 l1 l2 l3 l4 : Value) (s0 : Int32) (s1 : Int32) (s2 : Nat) (H : HS) : rn 39 116 [l0, l1, l2, l3, l4] [.int s0, .int s1, .ref s2] H = rn 39 117 [l0, l1, l2, l3, l4] [.int (s1 + s0), .ref s2] H := rn_nx rfl
theorem x39_117 (l0 l1 l2 l3 l4 : Value) (s0 : Int32) (s1 : Nat) (H : HS) : rn 39 117 [l0, l1, l2, l3, l4] [.int s0, .ref s1] H = pk 39 120 [l0, l1, l2, l3, l4] [] (pfd H true 2 4 s1 (.int s0)) := (rn_ev ..).trans (ev_pk rfl)
theorem x39_120 (l0 l1 l2 l3 : Value) (l4 : Nat) (H : HS) : rn 39 120 [l0, l1, l2, l3, .ref l4] [] H = rn 39 122 [l0, l1, l2, l3, .ref l4] [.ref l4] H := rn_nx rfl
theorem x39_122 (l0 l1 l2 l3 : Value) (l4 : Nat) (s0 : Nat) (H : HS) : rn 39 122 [l0, l1, l2, l3, .ref l4] [.ref s0] H = rn 39 124 [l0, l1, l2, l3, .ref l4] [.ref l4, .ref s0] H := rn_nx rfl
theorem x39_124 (l0 l1 l2 l3 l4 : Value) (s0 : Nat) (s1 : Nat) (H : HS) : rn 39 124 [l0, l1, l2, l3, l4] [.ref s0, .ref s1] H = gk 39 127 [l0, l1, l2, l3, l4] [.ref s1] H (gfd H 2 4 s0) := (rn_ev ..).trans (ev_gk rfl)
theorem x39_127 (l1 l2 l3 l4 : Value) (l0 : Nat) (s0 : Int32) (s1 : Nat) (H : HS) : rn 39 127 [.ref l0, l1, l2, l3, l4] [.int s0, .ref s1] H = rn 39 128 [.ref l0, l1, l2, l3, l4] [.ref l0, .int s0, .ref s1] H := rn_nx rfl
theorem x39_128 (l0 l2 l3 l4 : Value) (l1 : Int32) (s0 : Nat) (s1 : Int32) (s2 : Nat) (H : HS) : rn 39 128 [l0, .int l1, l2, l3, l4] [.ref s0, .int s1, .ref s2] H = rn 39 129 [l0, .int l1, l2, l3, l4] [.int l1, .ref s0, .int s1, .ref s2] H := rn_nx rfl
theorem x39_129 (l0 l1 l3 l4 : Value) (l2 : Int32) (s0 : Int32) (s1 : Nat) (s2 : Int32) (s3 : Nat) (H : HS) : rn 39 129 [l0, l1, .int l2, l3, l4] [.int s0, .ref s1, .int s2, .ref s3] H = rn 39 130 [l0, l1, .int l2, l3, l4] [.int l2, .int s0, .ref s1, .int s2, .ref s3] H := rn_nx rfl
theorem x39_130 (l0 l1 l2 l3 l4 : Value) (s0 : Int32) (s1 : Int32) (s2 : Nat) (s3 : Int32) (s4 : Nat) (H : HS) (h : recv H s2 1 = true) : rn 39 130 [l0, l1, l2, l3, l4] [.int s0, .int s1, .ref s2, .int s3, .ref s4] H = bnd true 39 130 [l0, l1, l2, l3, l4] [.int s3, .ref s4] (rcal 61 [.ref s2, .int s1, .int s0] H) := rn_cal (vcal h rfl)
theorem x39_133 (l0 l1 l2 l3 l4 : Value) (s0 : Int32) (s1 : Int32) (s2 : Nat) (H : HS) : rn 39 133 [l0, l1, l2, l3, l4] [.int s0, .int s1, .ref s2] H = rn 39 134 [l0, l1, l2, l3, l4] [.int (s1 + s0), .ref s2] H := rn_nx rfl
theorem x39_134 (l0 l1 l3 l4 : Value) (l2 : Int32) (s0 : Int32) (s1 : Nat) (H : HS) : rn 39 134 [l0, l1, .int l2, l3, l4] [.int s0, .ref s1] H = rn 39 135 [l0, l1, .int l2, l3, l4] [.int l2, .int s0, .ref s1] H := rn_nx rfl
theorem x39_135 (l0 l2 l3 l4 : Value) (l1 : Int32) (s0 : Int32) (s1 : Int32) (s2 : Nat) (H : HS) : rn 39 135 [l0, .int l1, l2, l3, l4] [.int s0, .int s1, .ref s2] H = rn 39 136 [l0, .int l1, l2, l3, l4] [.int l1, .int s0, .int s1, .ref s2] H := rn_nx rfl
theorem x39_136 (l0 l1 l2 l3 l4 : Value) (s0 : Int32) (s1 : Int32) (s2 : Int32) (s3 : Nat) (H : HS) : rn 39 136 [l0, l1, l2, l3, l4] [.int s0, .int s1, .int s2, .ref s3] H = rn 39 137 [l0, l1, l2, l3, l4] [.int (s1 - s0), .int s2, .ref s3] H := rn_nx rfl
theorem x39_137 (l0 l1 l2 l3 l4 : Value) (s0 : Int32) (s1 : Int32) (s2 : Nat) (H : HS) : rn 39 137 [l0, l1, l2, l3, l4] [.int s0, .int s1, .ref s2] H = rn 39 140 [l0, l1, l2, l3, l4] [.int (if 0 ≤ s0 then s0 else 0 - s0), .int s1, .ref s2] H := rn_nx rfl
theorem x39_140 (l0 l1 l2 l3 l4 : Value) (s0 : Int32) (s1 : Int32) (s2 : Nat) (H : HS) : rn 39 140 [l0, l1, l2, l3, l4] [.int s0, .int s1, .ref s2] H = rn 39 141 [l0, l1, l2, l3, l4] [.int (s1 + s0), .ref s2] H := rn_nx rfl
theorem x39_141 (l0 l1 l2 l3 l4 : Value) (s0 : Int32) (s1 : Nat) (H : HS) : rn 39 141 [l0, l1, l2, l3, l4] [.int s0, .ref s1] H = pk 39 144 [l0, l1, l2, l3, l4] [] (pfd H true 2 5 s1 (.int s0)) := (rn_ev ..).trans (ev_pk rfl)
theorem x39_144 (l0 l1 l2 l3 : Value) (l4 : Nat) (H : HS) : rn 39 144 [l0, l1, l2, l3, .ref l4] [] H = rn 39 146 [l0, l1, l2, l3, .ref l4] [.ref l4] H := rn_nx rfl
theorem x39_146 (l0 l1 l2 l3 l4 : Value) (s0 : Nat) (H : HS) : rn 39 146 [l0, l1, l2, l3, l4] [.ref s0] H = rn 39 147 [l0, l1, l2, l3, l4] [.int (-1), .ref s0] H := rn_nx rfl
theorem x39_147 (l0 l1 l2 l3 l4 : Value) (s0 : Int32) (s1 : Nat) (H : HS) : rn 39 147 [l0, l1, l2, l3, l4] [.int s0, .ref s1] H = pk 39 150 [l0, l1, l2, l3, l4] [] (pfd H true 2 6 s1 (.int s0)) := (rn_ev ..).trans (ev_pk rfl)
theorem x39_150 (l0 l1 l2 l3 : Value) (l4 : Nat) (H : HS) : rn 39 150 [l0, l1, l2, l3, .ref l4] [] H = rn 39 152 [l0, l1, l2, l3, .ref l4] [.ref l4] H := rn_nx rfl
theorem x39_152 (l0 l1 l2 l3 l4 : Value) (s0 : Nat) (H : HS) : rn 39 152 [l0, l1, l2, l3, l4] [.ref s0] H = rn 39 153 [l0, l1, l2, l3, l4] [.int (-1), .ref s0] H := rn_nx rfl
theorem x39_153 (l0 l1 l2 l3 l4 : Value) (s0 : Int32) (s1 : Nat) (H : HS) : rn 39 153 [l0, l1, l2, l3, l4] [.int s0, .ref s1] H = pk 39 156 [l0, l1, l2, l3, l4] [] (pfd H true 2 7 s1 (.int s0)) := (rn_ev ..).trans (ev_pk rfl)
theorem x39_156 (l0 l1 l2 l3 : Value) (l4 : Nat) (H : HS) : rn 39 156 [l0, l1, l2, l3, .ref l4] [] H = rn 39 158 [l0, l1, l2, l3, .ref l4] [.ref l4] H := rn_nx rfl
theorem x39_158 (l0 l1 l2 l3 l4 : Value) (s0 : Nat) (H : HS) : rn 39 158 [l0, l1, l2, l3, l4] [.ref s0] H = rn 39 159 [l0, l1, l2, l3, l4] [.int 0, .ref s0] H := rn_nx rfl
theorem x39_159 (l0 l1 l2 l3 l4 : Value) (s0 : Int32) (s1 : Nat) (H : HS) : rn 39 159 [l0, l1, l2, l3, l4] [.int s0, .ref s1] H = pk 39 162 [l0, l1, l2, l3, l4] [] (pfd H true 2 8 s1 (.int s0)) := (rn_ev ..).trans (ev_pk rfl)
theorem x39_162 (l0 l1 l2 l3 : Value) (l4 : Nat) (H : HS) : rn 39 162 [l0, l1, l2, l3, .ref l4] [] H = rn 39 164 [l0, l1, l2, l3, .ref l4] [.ref l4] H := rn_nx rfl
theorem x39_164 (l0 l1 l2 l3 l4 : Value) (s0 : Nat) (H : HS) : rn 39 164 [l0, l1, l2, l3, l4] [.ref s0] H = rn 39 165 [l0, l1, l2, l3, l4] [.int 0, .ref s0] H := rn_nx rfl
theorem x39_165 (l0 l1 l2 l3 l4 : Value) (s0 : Int32) (s1 : Nat) (H : HS) : rn 39 165 [l0, l1, l2, l3, l4] [.int s0, .ref s1] H = pk 39 168 [l0, l1, l2, l3, l4] [] (pfd H true 2 9 s1 (.int s0)) := (rn_ev ..).trans (ev_pk rfl)
theorem x39_168 (l0 l1 l2 l3 : Value) (l4 : Nat) (H : HS) : rn 39 168 [l0, l1, l2, l3, .ref l4] [] H = rn 39 170 [l0, l1, l2, l3, .ref l4] [.ref l4] H := rn_nx rfl
theorem x39_170 (l0 l1 l2 l3 l4 : Value) (s0 : Nat) (H : HS) : rn 39 170 [l0, l1, l2, l3, l4] [.ref s0] H = rn 39 171 [l0, l1, l2, l3, l4] [.int 0, .ref s0] H := rn_nx rfl
theorem x39_171 (l0 l1 l2 l3 l4 : Value) (s0 : Int32) (s1 : Nat) (H : HS) : rn 39 171 [l0, l1, l2, l3, l4] [.int s0, .ref s1] H = pk 39 174 [l0, l1, l2, l3, l4] [] (pfd H true 2 10 s1 (.int s0)) := (rn_ev ..).trans (ev_pk rfl)
theorem x39_174 (l0 l1 l2 l3 : Value) (l4 : Nat) (H : HS) : rn 39 174 [l0, l1, l2, l3, .ref l4] [] H = rn 39 176 [l0, l1, l2, l3, .ref l4] [.ref l4] H := rn_nx rfl
theorem x39_176 (l0 l1 l2 l3 l4 : Value) (s0 : Nat) (H : HS) : rn 39 176 [l0, l1, l2, l3, l4] [.ref s0] H = rn 39 177 [l0, l1, l2, l3, l4] [.int (-1), .ref s0] H := rn_nx rfl
theorem x39_177 (l0 l1 l2 l3 l4 : Value) (s0 : Int32) (s1 : Nat) (H : HS) : rn 39 177 [l0, l1, l2, l3, l4] [.int s0, .ref s1] H = pk 39 180 [l0, l1, l2, l3, l4] [] (pfd H true 2 11 s1 (.int s0)) := (rn_ev ..).trans (ev_pk rfl)
theorem x39_180 (l0 l1 l2 l3 : Value) (l4 : Nat) (H : HS) : rn 39 180 [l0, l1, l2, l3, .ref l4] [] H = rn 39 182 [l0, l1, l2, l3, .ref l4] [.ref l4] H := rn_nx rfl
theorem x39_182 (l0 l1 l2 l3 l4 : Value) (s0 : Nat) (H : HS) : rn 39 182 [l0, l1, l2, l3, l4] [.ref s0] H = gk 39 185 [l0, l1, l2, l3, l4] [] H (gfd H 2 1 s0) := (rn_ev ..).trans (ev_gk rfl)
theorem x39_185 (l0 l1 l2 l3 l4 : Value) (s0 : Int32) (H : HS) : rn 39 185 [l0, l1, l2, l3, l4] [.int s0] H = some (.inl (some (.int s0)), H) := rn_end rfl
theorem c39 (a0 : Nat) (a1 : Int32) (a2 : Int32) (a3 : Int32) (H : HS) : rcal 39 [.ref a0, .int a1, .int a2, .int a3] H = rn 39 0 [.ref a0, .int a1, .int a2, .int a3, un] [] H := rfl
theorem x40_0 (l1 l2 l3 l4 l5 l6 l7 l8 : Value) (l0 : Nat) (H : HS) : rn 40 0 [.ref l0, l1, l2, l3, l4, l5, l6, l7, l8] [] H = rn 40 1 [.ref l0, l1, l2, l3, l4, l5, l6, l7, l8] [.ref l0] H := rn_nx rfl
theorem x40_1 (l0 l2 l3 l4 l5 l6 l7 l8 : Value) (l1 : Int32) (s0 : Nat) (H : HS) : rn 40 1 [l0, .int l1, l2, l3, l4, l5, l6, l7, l8] [.ref s0] H = rn 40 2 [l0, .int l1, l2, l3, l4, l5, l6, l7, l8] [.int l1, .ref s0] H := rn_nx rfl
theorem x40_2 (l0 l1 l2 l3 l4 l5 l6 l7 l8 : Value) (s0 : Int32) (s1 : Nat) (H : HS) (h : recv H s1 1 = true) : rn 40 2 [l0, l1, l2, l3, l4, l5, l6, l7, l8] [.int s0, .ref s1] H = bnd true 40 2 [l0, l1, l2, l3, l4, l5, l6, l7, l8] [] (rcal 58 [.ref s1, .int s0] H) := rn_cal (vcal h rfl)
theorem x40_5 (l0 l1 l2 l3 l4 l5 l6 l7 l8 : Value) (H : HS) : rn 40 5 [l0, l1, l2, l3, l4, l5, l6, l7, l8] [.null] H = rn 40 6 [l0, l1, (kl l2), .null, l4, l5, l6, l7, l8] [] H := rn_nx rfl
theorem x40_6 (l0 l1 l2 l4 l5 l6 l7 l8 : Value) (l3 : Nat) (H : HS) : rn 40 6 [l0, l1, l2, .ref l3, l4, l5, l6, l7, l8] [] H = rn 40 7 [l0, l1, l2, .ref l3, l4, l5, l6, l7, l8] [.ref l3] H := rn_nx rfl
theorem x40_6n (l0 l1 l2 l4 l5 l6 l7 l8 : Value) (H : HS) : rn 40 6 [l0, l1, l2, .null, l4, l5, l6, l7, l8] [] H = rn 40 7 [l0, l1, l2, .null, l4, l5, l6, l7, l8] [.null] H := rn_nx rfl
theorem x40_7 (l0 l1 l2 l3 l4 l5 l6 l7 l8 : Value) (H : HS) : rn 40 7 [l0, l1, l2, l3, l4, l5, l6, l7, l8] [.null] H = rn 40 10 [l0, l1, l2, l3, l4, l5, l6, l7, l8] [] H := rn_nx rfl
theorem x40_10 (l0 l1 l2 l3 l4 l5 l6 l7 l8 : Value) (H : HS) : rn 40 10 [l0, l1, l2, l3, l4, l5, l6, l7, l8] [] H = rn 40 12 [l0, l1, l2, l3, l4, l5, l6, l7, l8] [.int (-4)] H := rn_nx rfl
theorem x40_12 (l0 l1 l2 l3 l4 l5 l6 l7 l8 : Value) (s0 : Int32) (H : HS) : rn 40 12 [l0, l1, l2, l3, l4, l5, l6, l7, l8] [.int s0] H = some (.inl (some (.int s0)), H) := rn_end rfl
theorem x40_7a (l0 l1 l2 l3 l4 l5 l6 l7 l8 : Value) (s0 : Nat) (H : HS) : rn 40 7 [l0, l1, l2, l3, l4, l5, l6, l7, l8] [.ref s0] H = rn 40 13 [l0, l1, l2, l3, l4, l5, l6, l7, l8] [] H := rn_nx rfl
theorem x40_13 (l0 l1 l2 l4 l5 l6 l7 l8 : Value) (l3 : Nat) (H : HS) : rn 40 13 [l0, l1, l2, .ref l3, l4, l5, l6, l7, l8] [] H = rn 40 14 [l0, l1, l2, .ref l3, l4, l5, l6, l7, l8] [.ref l3] H := rn_nx rfl
theorem x40_14 (l0 l1 l2 l3 l4 l5 l6 l7 l8 : Value) (s0 : Nat) (H : HS) : rn 40 14 [l0, l1, l2, l3, l4, l5, l6, l7, l8] [.ref s0] H = gk 40 17 [l0, l1, l2, l3, l4, l5, l6, l7, l8] [] H (gfd H 2 9 s0) := (rn_ev ..).trans (ev_gk rfl)
theorem x40_17 (l0 l1 l3 l4 l5 l6 l7 l8 : Value) (l2 : Int32) (s0 : Int32) (H : HS) : rn 40 17 [l0, l1, .int l2, l3, l4, l5, l6, l7, l8] [.int s0] H = rn 40 18 [l0, l1, .int l2, l3, l4, l5, l6, l7, l8] [.int l2, .int s0] H := rn_nx rfl
theorem x40_18 (l0 l1 l2 l3 l4 l5 l6 l7 l8 : Value) (s0 : Int32) (s1 : Int32) (H : HS) : rn 40 18 [l0, l1, l2, l3, l4, l5, l6, l7, l8] [.int s0, .int s1] H = if s1 = s0 then rn 40 21 [l0, l1, l2, l3, l4, l5, l6, l7, l8] [] H else rn 40 24 [l0, l1, l2, l3, l4, l5, l6, l7, l8] [] H := (rn_ev ..).trans (ev_bin rfl)
theorem x40_21 (l0 l1 l2 l3 l4 l5 l6 l7 l8 : Value) (H : HS) : rn 40 21 [l0, l1, l2, l3, l4, l5, l6, l7, l8] [] H = rn 40 23 [l0, l1, l2, l3, l4, l5, l6, l7, l8] [.int (-3)] H := rn_nx rfl
theorem x40_23 (l0 l1 l2 l3 l4 l5 l6 l7 l8 : Value) (s0 : Int32) (H : HS) : rn 40 23 [l0, l1, l2, l3, l4, l5, l6, l7, l8] [.int s0] H = some (.inl (some (.int s0)), H) := rn_end rfl
theorem x40_24 (l0 l1 l2 l4 l5 l6 l7 l8 : Value) (l3 : Nat) (H : HS) : rn 40 24 [l0, l1, l2, .ref l3, l4, l5, l6, l7, l8] [] H = rn 40 25 [l0, l1, l2, .ref l3, l4, l5, l6, l7, l8] [.ref l3] H := rn_nx rfl
theorem x40_25 (l0 l1 l3 l4 l5 l6 l7 l8 : Value) (l2 : Int32) (s0 : Nat) (H : HS) : rn 40 25 [l0, l1, .int l2, l3, l4, l5, l6, l7, l8] [.ref s0] H = rn 40 26 [l0, l1, .int l2, l3, l4, l5, l6, l7, l8] [.int l2, .ref s0] H := rn_nx rfl
theorem x40_26 (l0 l1 l2 l3 l4 l5 l6 l7 l8 : Value) (s0 : Int32) (s1 : Nat) (H : HS) : rn 40 26 [l0, l1, l2, l3, l4, l5, l6, l7, l8] [.int s0, .ref s1] H = pk 40 29 [l0, l1, l2, l3, l4, l5, l6, l7, l8] [] (pfd H true 2 9 s1 (.int s0)) := (rn_ev ..).trans (ev_pk rfl)
theorem x40_29 (l0 l1 l2 l3 l4 l5 l6 l7 l8 : Value) (H : HS) : rn 40 29 [l0, l1, l2, l3, l4, l5, l6, l7, l8] [] H = rn 40 30 [l0, l1, l2, l3, l4, l5, l6, l7, l8] [.int 0] H := rn_nx rfl
theorem x40_30 (l0 l1 l2 l3 l4 l5 l6 l7 l8 : Value) (s0 : Int32) (H : HS) : rn 40 30 [l0, l1, l2, l3, l4, l5, l6, l7, l8] [.int s0] H = rn 40 32 [l0, l1, l2, (kl l3), .int s0, l5, l6, l7, l8] [] H := rn_nx rfl
theorem x40_32 (l1 l2 l3 l4 l5 l6 l7 l8 : Value) (l0 : Nat) (H : HS) : rn 40 32 [.ref l0, l1, l2, l3, l4, l5, l6, l7, l8] [] H = rn 40 33 [.ref l0, l1, l2, l3, l4, l5, l6, l7, l8] [.ref l0] H := rn_nx rfl
theorem x40_33 (l0 l1 l2 l3 l4 l5 l6 l7 l8 : Value) (s0 : Nat) (H : HS) : rn 40 33 [l0, l1, l2, l3, l4, l5, l6, l7, l8] [.ref s0] H = gk 40 36 [l0, l1, l2, l3, l4, l5, l6, l7, l8] [] H (gfd H 1 4 s0) := (rn_ev ..).trans (ev_gk rfl)
theorem x40_36 (l0 l1 l2 l3 l4 l5 l6 l7 l8 : Value) (s0 : Nat) (H : HS) : rn 40 36 [l0, l1, l2, l3, l4, l5, l6, l7, l8] [.ref s0] H = rn 40 38 [l0, l1, l2, l3, (kl l4), .ref s0, l6, l7, l8] [] H := rn_nx rfl
theorem x40_38 (l0 l1 l2 l3 l4 l6 l7 l8 : Value) (l5 : Nat) (H : HS) : rn 40 38 [l0, l1, l2, l3, l4, .ref l5, l6, l7, l8] [] H = rn 40 40 [l0, l1, l2, l3, l4, .ref l5, l6, l7, l8] [.ref l5] H := rn_nx rfl
theorem x40_40 (l0 l1 l2 l3 l4 l5 l6 l7 l8 : Value) (s0 : Nat) (H : HS) : rn 40 40 [l0, l1, l2, l3, l4, l5, l6, l7, l8] [.ref s0] H = gk 40 41 [l0, l1, l2, l3, l4, l5, l6, l7, l8] [] H (alen H s0) := (rn_ev ..).trans (ev_gk rfl)
theorem x40_41 (l0 l1 l2 l3 l4 l5 l6 l7 l8 : Value) (s0 : Int32) (H : HS) : rn 40 41 [l0, l1, l2, l3, l4, l5, l6, l7, l8] [.int s0] H = rn 40 43 [l0, l1, l2, l3, l4, (kl l5), .int s0, l7, l8] [] H := rn_nx rfl
theorem x40_43 (l0 l1 l2 l3 l4 l5 l6 l7 l8 : Value) (H : HS) : rn 40 43 [l0, l1, l2, l3, l4, l5, l6, l7, l8] [] H = rn 40 44 [l0, l1, l2, l3, l4, l5, l6, l7, l8] [.int 0] H := rn_nx rfl
theorem x40_44 (l0 l1 l2 l3 l4 l5 l6 l7 l8 : Value) (s0 : Int32) (H : HS) : rn 40 44 [l0, l1, l2, l3, l4, l5, l6, l7, l8] [.int s0] H = rn 40 46 [l0, l1, l2, l3, l4, l5, (kl l6), .int s0, l8] [] H := rn_nx rfl
theorem x40_46 (l0 l1 l2 l3 l4 l5 l6 l8 : Value) (l7 : Int32) (H : HS) : rn 40 46 [l0, l1, l2, l3, l4, l5, l6, .int l7, l8] [] H = rn 40 48 [l0, l1, l2, l3, l4, l5, l6, .int l7, l8] [.int l7] H := rn_nx rfl
theorem x40_48 (l0 l1 l2 l3 l4 l5 l7 l8 : Value) (l6 : Int32) (s0 : Int32) (H : HS) : rn 40 48 [l0, l1, l2, l3, l4, l5, .int l6, l7, l8] [.int s0] H = rn 40 50 [l0, l1, l2, l3, l4, l5, .int l6, l7, l8] [.int l6, .int s0] H := rn_nx rfl
theorem x40_50 (l0 l1 l2 l3 l4 l5 l6 l7 l8 : Value) (s0 : Int32) (s1 : Int32) (H : HS) : rn 40 50 [l0, l1, l2, l3, l4, l5, l6, l7, l8] [.int s0, .int s1] H = if s1 < s0 then rn 40 53 [l0, l1, l2, l3, l4, l5, l6, l7, l8] [] H else rn 40 85 [l0, l1, l2, l3, l4, l5, l6, l7, l8] [] H := (rn_ev ..).trans (ev_bin rfl)
theorem x40_53 (l0 l1 l2 l3 l4 l6 l7 l8 : Value) (l5 : Nat) (H : HS) : rn 40 53 [l0, l1, l2, l3, l4, .ref l5, l6, l7, l8] [] H = rn 40 55 [l0, l1, l2, l3, l4, .ref l5, l6, l7, l8] [.ref l5] H := rn_nx rfl
theorem x40_55 (l0 l1 l2 l3 l4 l5 l6 l8 : Value) (l7 : Int32) (s0 : Nat) (H : HS) : rn 40 55 [l0, l1, l2, l3, l4, l5, l6, .int l7, l8] [.ref s0] H = rn 40 57 [l0, l1, l2, l3, l4, l5, l6, .int l7, l8] [.int l7, .ref s0] H := rn_nx rfl
theorem x40_57 (l0 l1 l2 l3 l4 l5 l6 l7 l8 : Value) (s0 : Int32) (s1 : Nat) (H : HS) : rn 40 57 [l0, l1, l2, l3, l4, l5, l6, l7, l8] [.int s0, .ref s1] H = gk 40 58 [l0, l1, l2, l3, l4, l5, l6, l7, l8] [] H (aald H s1 s0) := (rn_ev ..).trans (ev_gk rfl)
theorem x40_58 (l0 l1 l2 l3 l4 l5 l6 l7 l8 : Value) (s0 : Nat) (H : HS) : rn 40 58 [l0, l1, l2, l3, l4, l5, l6, l7, l8] [.ref s0] H = rn 40 60 [l0, l1, l2, l3, l4, l5, l6, (kl l7), .ref s0] [] H := rn_nx rfl
theorem x40_60 (l0 l1 l2 l3 l4 l5 l6 l7 : Value) (l8 : Nat) (H : HS) : rn 40 60 [l0, l1, l2, l3, l4, l5, l6, l7, .ref l8] [] H = rn 40 62 [l0, l1, l2, l3, l4, l5, l6, l7, .ref l8] [.ref l8] H := rn_nx rfl
theorem x40_62 (l0 l1 l2 l3 l4 l5 l6 l7 l8 : Value) (s0 : Nat) (H : HS) (h : recv H s0 2 = true) : rn 40 62 [l0, l1, l2, l3, l4, l5, l6, l7, l8] [.ref s0] H = bnd true 40 62 [l0, l1, l2, l3, l4, l5, l6, l7, l8] [] (rcal 82 [.ref s0] H) := rn_cal (vcal h rfl)
theorem x40_65 (l0 l1 l2 l3 l4 l5 l6 l7 l8 : Value) (s0 : Int32) (H : HS) : rn 40 65 [l0, l1, l2, l3, l4, l5, l6, l7, l8] [.int s0] H = if s0 = 0 then rn 40 79 [l0, l1, l2, l3, l4, l5, l6, l7, l8] [] H else rn 40 68 [l0, l1, l2, l3, l4, l5, l6, l7, l8] [] H := (rn_ev ..).trans (ev_bif rfl)
theorem x40_68 (l0 l1 l2 l3 l4 l5 l6 l7 : Value) (l8 : Nat) (H : HS) : rn 40 68 [l0, l1, l2, l3, l4, l5, l6, l7, .ref l8] [] H = rn 40 70 [l0, l1, l2, l3, l4, l5, l6, l7, .ref l8] [.ref l8] H := rn_nx rfl
theorem x40_70 (l0 l1 l2 l3 l4 l5 l6 l7 l8 : Value) (s0 : Nat) (H : HS) : rn 40 70 [l0, l1, l2, l3, l4, l5, l6, l7, l8] [.ref s0] H = gk 40 73 [l0, l1, l2, l3, l4, l5, l6, l7, l8] [] H (gfd H 2 9 s0) := (rn_ev ..).trans (ev_gk rfl)
theorem x40_73 (l0 l1 l2 l3 l4 l5 l6 l7 l8 : Value) (s0 : Int32) (H : HS) : rn 40 73 [l0, l1, l2, l3, l4, l5, l6, l7, l8] [.int s0] H = if s0 = 0 then rn 40 79 [l0, l1, l2, l3, l4, l5, l6, l7, l8] [] H else rn 40 76 [l0, l1, l2, l3, l4, l5, l6, l7, l8] [] H := (rn_ev ..).trans (ev_bif rfl)
theorem x40_76 (l0 l1 l2 l3 l5 l6 l7 l8 : Value) (l4 : Int32) (H : HS) : rn 40 76 [l0, l1, l2, l3, .int l4, l5, l6, l7, l8] [] H = rn 40 79 [l0, l1, l2, (kl l3), .int (l4 + 1), l5, l6, l7, l8] [] H := rn_nx rfl
theorem x40_79 (l0 l1 l2 l3 l4 l5 l6 l8 : Value) (l7 : Int32) (H : HS) : rn 40 79 [l0, l1, l2, l3, l4, l5, l6, .int l7, l8] [] H = rn 40 82 [l0, l1, l2, l3, l4, l5, (kl l6), .int (l7 + 1), l8] [] H := rn_nx rfl
theorem x40_82 (l0 l1 l2 l3 l4 l5 l6 l7 l8 : Value) (H : HS) : rn 40 82 [l0, l1, l2, l3, l4, l5, l6, l7, l8] [] H = rn 40 46 [l0, l1, l2, l3, l4, l5, l6, l7, l8] [] H := rn_nx rfl
theorem x40_85 (l0 l1 l2 l3 l5 l6 l7 l8 : Value) (l4 : Int32) (H : HS) : rn 40 85 [l0, l1, l2, l3, .int l4, l5, l6, l7, l8] [] H = rn 40 87 [l0, l1, l2, l3, .int l4, l5, l6, l7, l8] [.int l4] H := rn_nx rfl
theorem x40_87 (l0 l1 l2 l3 l4 l5 l6 l7 l8 : Value) (s0 : Int32) (H : HS) : rn 40 87 [l0, l1, l2, l3, l4, l5, l6, l7, l8] [.int s0] H = some (.inl (some (.int s0)), H) := rn_end rfl
theorem x40_5a (l0 l1 l2 l3 l4 l5 l6 l7 l8 : Value) (s0 : Nat) (H : HS) : rn 40 5 [l0, l1, l2, l3, l4, l5, l6, l7, l8] [.ref s0] H = rn 40 6 [l0, l1, (kl l2), .ref s0, l4, l5, l6, l7, l8] [] H := rn_nx rfl
theorem c40 (a0 : Nat) (a1 : Int32) (a2 : Int32) (H : HS) : rcal 40 [.ref a0, .int a1, .int a2] H = rn 40 0 [.ref a0, .int a1, .int a2, un, un, un, un, un, un] [] H := rfl
theorem x41_0 (l1 l2 : Value) (l0 : Nat) (H : HS) : rn 41 0 [.ref l0, l1, l2] [] H = rn 41 1 [.ref l0, l1, l2] [.ref l0] H := rn_nx rfl
theorem x41_1 (l0 l2 : Value) (l1 : Int32) (s0 : Nat) (H : HS) : rn 41 1 [l0, .int l1, l2] [.ref s0] H = rn 41 2 [l0, .int l1, l2] [.int l1, .ref s0] H := rn_nx rfl
theorem x41_2 (l0 l1 l2 : Value) (s0 : Int32) (s1 : Nat) (H : HS) (h : recv H s1 1 = true) : rn 41 2 [l0, l1, l2] [.int s0, .ref s1] H = bnd true 41 2 [l0, l1, l2] [] (rcal 58 [.ref s1, .int s0] H) := rn_cal (vcal h rfl)
theorem x41_5 (l0 l1 l2 : Value) (H : HS) : rn 41 5 [l0, l1, l2] [.null] H = rn 41 6 [l0, (kl l1), .null] [] H := rn_nx rfl
theorem x41_6 (l0 l1 : Value) (l2 : Nat) (H : HS) : rn 41 6 [l0, l1, .ref l2] [] H = rn 41 7 [l0, l1, .ref l2] [.ref l2] H := rn_nx rfl
theorem x41_6n (l0 l1 : Value) (H : HS) : rn 41 6 [l0, l1, .null] [] H = rn 41 7 [l0, l1, .null] [.null] H := rn_nx rfl
theorem x41_7 (l0 l1 l2 : Value) (H : HS) : rn 41 7 [l0, l1, l2] [.null] H = rn 41 10 [l0, l1, l2] [] H := rn_nx rfl
theorem x41_10 (l0 l1 l2 : Value) (H : HS) : rn 41 10 [l0, l1, l2] [] H = rn 41 12 [l0, l1, l2] [.int (-4)] H := rn_nx rfl
theorem x41_12 (l0 l1 l2 : Value) (s0 : Int32) (H : HS) : rn 41 12 [l0, l1, l2] [.int s0] H = some (.inl (some (.int s0)), H) := rn_end rfl
theorem x41_7a (l0 l1 l2 : Value) (s0 : Nat) (H : HS) : rn 41 7 [l0, l1, l2] [.ref s0] H = rn 41 13 [l0, l1, l2] [] H := rn_nx rfl
theorem x41_13 (l0 l1 : Value) (l2 : Nat) (H : HS) : rn 41 13 [l0, l1, .ref l2] [] H = rn 41 14 [l0, l1, .ref l2] [.ref l2] H := rn_nx rfl
theorem x41_14 (l0 l1 l2 : Value) (s0 : Nat) (H : HS) : rn 41 14 [l0, l1, l2] [.ref s0] H = gk 41 17 [l0, l1, l2] [] H (gfd H 2 0 s0) := (rn_ev ..).trans (ev_gk rfl)
theorem x41_17 (l0 l1 l2 : Value) (s0 : Nat) (H : HS) : rn 41 17 [l0, l1, l2] [.ref s0] H = rn 41 20 [l0, l1, l2] [.ref 4, .ref s0] H := rn_nx rfl
theorem x41_20 (l0 l1 l2 : Value) (s0 : Nat) (s1 : Nat) (H : HS) : rn 41 20 [l0, l1, l2] [.ref s0, .ref s1] H = qk 41 23 26 [l0, l1, l2] [] H (req H (.ref s1) (.ref s0)) := (rn_ev ..).trans (ev_qn rfl)
theorem x41_23 (l0 l1 l2 : Value) (H : HS) : rn 41 23 [l0, l1, l2] [] H = rn 41 25 [l0, l1, l2] [.int (-3)] H := rn_nx rfl
theorem x41_25 (l0 l1 l2 : Value) (s0 : Int32) (H : HS) : rn 41 25 [l0, l1, l2] [.int s0] H = some (.inl (some (.int s0)), H) := rn_end rfl
theorem x41_26 (l1 l2 : Value) (l0 : Nat) (H : HS) : rn 41 26 [.ref l0, l1, l2] [] H = rn 41 27 [.ref l0, l1, l2] [.ref l0] H := rn_nx rfl
theorem x41_27 (l0 l1 : Value) (l2 : Nat) (s0 : Nat) (H : HS) : rn 41 27 [l0, l1, .ref l2] [.ref s0] H = rn 41 28 [l0, l1, .ref l2] [.ref l2, .ref s0] H := rn_nx rfl
theorem x41_28 (l0 l1 l2 : Value) (s0 : Nat) (s1 : Nat) (H : HS) (h : recv H s1 1 = true) : rn 41 28 [l0, l1, l2] [.ref s0, .ref s1] H = bnd true 41 28 [l0, l1, l2] [] (rcal 43 [.ref s1, .ref s0] H) := rn_cal (vcal h rfl)
theorem x41_31 (l1 l2 : Value) (l0 : Nat) (H : HS) : rn 41 31 [.ref l0, l1, l2] [] H = rn 41 32 [.ref l0, l1, l2] [.ref l0] H := rn_nx rfl
theorem x41_32 (l0 l1 l2 : Value) (s0 : Nat) (H : HS) : rn 41 32 [l0, l1, l2] [.ref s0] H = gk 41 35 [l0, l1, l2] [] H (gfd H 1 5 s0) := (rn_ev ..).trans (ev_gk rfl)
theorem x41_35 (l0 l1 l2 : Value) (s0 : Int32) (H : HS) : rn 41 35 [l0, l1, l2] [.int s0] H = some (.inl (some (.int s0)), H) := rn_end rfl
theorem x41_5a (l0 l1 l2 : Value) (s0 : Nat) (H : HS) : rn 41 5 [l0, l1, l2] [.ref s0] H = rn 41 6 [l0, (kl l1), .ref s0] [] H := rn_nx rfl
theorem c41 (a0 : Nat) (a1 : Int32) (H : HS) : rcal 41 [.ref a0, .int a1] H = rn 41 0 [.ref a0, .int a1, un] [] H := rfl
theorem x42_0 (l0 l2 l3 : Value) (l1 : Int32) (H : HS) : rn 42 0 [l0, .int l1, l2, l3] [] H = rn 42 1 [l0, .int l1, l2, l3] [.int l1] H := rn_nx rfl
theorem x42_1 (l0 l1 l2 l3 : Value) (s0 : Int32) (H : HS) : rn 42 1 [l0, l1, l2, l3] [.int s0] H = rn 42 2 [l0, l1, l2, l3] [.int 1, .int s0] H := rn_nx rfl
theorem x42_2 (l0 l1 l2 l3 : Value) (s0 : Int32) (s1 : Int32) (H : HS) : rn 42 2 [l0, l1, l2, l3] [.int s0, .int s1] H = if s1 < s0 then rn 42 11 [l0, l1, l2, l3] [] H else rn 42 5 [l0, l1, l2, l3] [] H := (rn_ev ..).trans (ev_bif rfl)
theorem x42_5 (l0 l2 l3 : Value) (l1 : Int32) (H : HS) : rn 42 5 [l0, .int l1, l2, l3] [] H = rn 42 6 [l0, .int l1, l2, l3] [.int l1] H := rn_nx rfl
theorem x42_6 (l0 l1 l2 l3 : Value) (s0 : Int32) (H : HS) : rn 42 6 [l0, l1, l2, l3] [.int s0] H = rn 42 8 [l0, l1, l2, l3] [.int 60, .int s0] H := rn_nx rfl
theorem x42_8 (l0 l1 l2 l3 : Value) (s0 : Int32) (s1 : Int32) (H : HS) : rn 42 8 [l0, l1, l2, l3] [.int s0, .int s1] H = if s0 < s1 then rn 42 11 [l0, l1, l2, l3] [] H else rn 42 14 [l0, l1, l2, l3] [] H := (rn_ev ..).trans (ev_bin rfl)
theorem x42_11 (l0 l1 l2 l3 : Value) (H : HS) : rn 42 11 [l0, l1, l2, l3] [] H = rn 42 13 [l0, l1, l2, l3] [.int (-2)] H := rn_nx rfl
theorem x42_13 (l0 l1 l2 l3 : Value) (s0 : Int32) (H : HS) : rn 42 13 [l0, l1, l2, l3] [.int s0] H = some (.inl (some (.int s0)), H) := rn_end rfl
theorem x42_14 (l1 l2 l3 : Value) (l0 : Nat) (H : HS) : rn 42 14 [.ref l0, l1, l2, l3] [] H = rn 42 15 [.ref l0, l1, l2, l3] [.ref l0] H := rn_nx rfl
theorem x42_15 (l0 l1 l2 l3 : Value) (s0 : Nat) (H : HS) : rn 42 15 [l0, l1, l2, l3] [.ref s0] H = gk 42 18 [l0, l1, l2, l3] [] H (gfd H 1 8 s0) := (rn_ev ..).trans (ev_gk rfl)
theorem x42_18 (l0 l1 l2 l3 : Value) (s0 : Int32) (H : HS) : rn 42 18 [l0, l1, l2, l3] [.int s0] H = rn 42 19 [l0, (kl l1), .int s0, l3] [] H := rn_nx rfl
theorem x42_19 (l0 l1 l2 l3 : Value) (H : HS) : rn 42 19 [l0, l1, l2, l3] [] H = rn 42 20 [l0, l1, l2, l3] [.int 0] H := rn_nx rfl
theorem x42_20 (l0 l1 l2 l3 : Value) (s0 : Int32) (H : HS) : rn 42 20 [l0, l1, l2, l3] [.int s0] H = rn 42 21 [l0, l1, (kl l2), .int s0] [] H := rn_nx rfl
theorem x42_21 (l0 l1 l2 : Value) (l3 : Int32) (H : HS) : rn 42 21 [l0, l1, l2, .int l3] [] H = rn 42 22 [l0, l1, l2, .int l3] [.int l3] H := rn_nx rfl
theorem x42_22 (l0 l2 l3 : Value) (l1 : Int32) (s0 : Int32) (H : HS) : rn 42 22 [l0, .int l1, l2, l3] [.int s0] H = rn 42 23 [l0, .int l1, l2, l3] [.int l1, .int s0] H := rn_nx rfl
theorem x42_23 (l0 l1 l2 l3 : Value) (s0 : Int32) (s1 : Int32) (H : HS) : rn 42 23 [l0, l1, l2, l3] [.int s0, .int s1] H = if s1 < s0 then rn 42 26 [l0, l1, l2, l3] [] H else rn 42 36 [l0, l1, l2, l3] [] H := (rn_ev ..).trans (ev_bin rfl)
theorem x42_26 (l1 l2 l3 : Value) (l0 : Nat) (H : HS) : rn 42 26 [.ref l0, l1, l2, l3] [] H = rn 42 27 [.ref l0, l1, l2, l3] [.ref l0] H := rn_nx rfl
theorem x42_27 (l0 l1 l2 l3 : Value) (s0 : Nat) (H : HS) (h : recv H s0 1 = true) : rn 42 27 [l0, l1, l2, l3] [.ref s0] H = bnd true 42 27 [l0, l1, l2, l3] [] (rcal 44 [.ref s0] H) := rn_cal (vcal h rfl)
theorem x42_30 (l0 l1 l2 : Value) (l3 : Int32) (H : HS) : rn 42 30 [l0, l1, l2, .int l3] [] H = rn 42 33 [l0, l1, (kl l2), .int (l3 + 1)] [] H := rn_nx rfl
theorem x42_33 (l0 l1 l2 l3 : Value) (H : HS) : rn 42 33 [l0, l1, l2, l3] [] H = rn 42 21 [l0, l1, l2, l3] [] H := rn_nx rfl
theorem x42_36 (l1 l2 l3 : Value) (l0 : Nat) (H : HS) : rn 42 36 [.ref l0, l1, l2, l3] [] H = rn 42 37 [.ref l0, l1, l2, l3] [.ref l0] H := rn_nx rfl
theorem x42_37 (l0 l1 l2 l3 : Value) (s0 : Nat) (H : HS) : rn 42 37 [l0, l1, l2, l3] [.ref s0] H = gk 42 40 [l0, l1, l2, l3] [] H (gfd H 1 8 s0) := (rn_ev ..).trans (ev_gk rfl)
theorem x42_40 (l0 l1 l3 : Value) (l2 : Int32) (s0 : Int32) (H : HS) : rn 42 40 [l0, l1, .int l2, l3] [.int s0] H = rn 42 41 [l0, l1, .int l2, l3] [.int l2, .int s0] H := rn_nx rfl
theorem x42_41 (l0 l1 l2 l3 : Value) (s0 : Int32) (s1 : Int32) (H : HS) : rn 42 41 [l0, l1, l2, l3] [.int s0, .int s1] H = rn 42 42 [l0, l1, l2, l3] [.int (s1 - s0)] H := rn_nx rfl
theorem x42_42 (l0 l1 l2 l3 : Value) (s0 : Int32) (H : HS) : rn 42 42 [l0, l1, l2, l3] [.int s0] H = some (.inl (some (.int s0)), H) := rn_end rfl
theorem c42 (a0 : Nat) (a1 : Int32) (H : HS) : rcal 42 [.ref a0, .int a1] H = rn 42 0 [.ref a0, .int a1, un, un] [] H := rfl
theorem x43_0 (l0 l1 l2 l3 l4 : Value) (H : HS) : rn 43 0 [l0, l1, l2, l3, l4] [] H = rn 43 1 [l0, l1, l2, l3, l4] [.int 0] H := rn_nx rfl
theorem x43_1 (l0 l1 l2 l3 l4 : Value) (s0 : Int32) (H : HS) : rn 43 1 [l0, l1, l2, l3, l4] [.int s0] H = rn 43 2 [l0, (kl l1), .int s0, l3, l4] [] H := rn_nx rfl
theorem x43_2 (l0 l1 l2 l3 l4 : Value) (H : HS) : rn 43 2 [l0, l1, l2, l3, l4] [] H = rn 43 3 [l0, l1, l2, l3, l4] [.int 0] H := rn_nx rfl
theorem x43_3 (l0 l1 l2 l3 l4 : Value) (s0 : Int32) (H : HS) : rn 43 3 [l0, l1, l2, l3, l4] [.int s0] H = rn 43 4 [l0, l1, (kl l2), .int s0, l4] [] H := rn_nx rfl
theorem x43_4 (l0 l1 l2 l4 : Value) (l3 : Int32) (H : HS) : rn 43 4 [l0, l1, l2, .int l3, l4] [] H = rn 43 5 [l0, l1, l2, .int l3, l4] [.int l3] H := rn_nx rfl
theorem x43_5 (l0 l1 l2 l3 l4 : Value) (s0 : Int32) (H : HS) : rn 43 5 [l0, l1, l2, l3, l4] [.int s0] H = rn 43 7 [l0, l1, l2, l3, l4] [.int 6, .int s0] H := rn_nx rfl
theorem x43_7 (l0 l1 l2 l3 l4 : Value) (s0 : Int32) (s1 : Int32) (H : HS) : rn 43 7 [l0, l1, l2, l3, l4] [.int s0, .int s1] H = if s1 < s0 then rn 43 10 [l0, l1, l2, l3, l4] [] H else rn 43 41 [l0, l1, l2, l3, l4] [] H := (rn_ev ..).trans (ev_bin rfl)
theorem x43_10 (l1 l2 l3 l4 : Value) (l0 : Nat) (H : HS) : rn 43 10 [.ref l0, l1, l2, l3, l4] [] H = rn 43 11 [.ref l0, l1, l2, l3, l4] [.ref l0] H := rn_nx rfl
theorem x43_11 (l0 l1 l2 l3 l4 : Value) (s0 : Nat) (H : HS) : rn 43 11 [l0, l1, l2, l3, l4] [.ref s0] H = gk 43 14 [l0, l1, l2, l3, l4] [] H (gfd H 1 4 s0) := (rn_ev ..).trans (ev_gk rfl)
theorem x43_14 (l0 l1 l2 l4 : Value) (l3 : Int32) (s0 : Nat) (H : HS) : rn 43 14 [l0, l1, l2, .int l3, l4] [.ref s0] H = rn 43 15 [l0, l1, l2, .int l3, l4] [.int l3, .ref s0] H := rn_nx rfl
theorem x43_15 (l0 l1 l2 l3 l4 : Value) (s0 : Int32) (s1 : Nat) (H : HS) : rn 43 15 [l0, l1, l2, l3, l4] [.int s0, .ref s1] H = gk 43 16 [l0, l1, l2, l3, l4] [] H (aald H s1 s0) := (rn_ev ..).trans (ev_gk rfl)
theorem x43_16 (l0 l1 l2 l3 l4 : Value) (s0 : Nat) (H : HS) : rn 43 16 [l0, l1, l2, l3, l4] [.ref s0] H = rn 43 18 [l0, l1, l2, (kl l3), .ref s0] [] H := rn_nx rfl
theorem x43_18 (l0 l1 l2 l3 : Value) (l4 : Nat) (H : HS) : rn 43 18 [l0, l1, l2, l3, .ref l4] [] H = rn 43 20 [l0, l1, l2, l3, .ref l4] [.ref l4] H := rn_nx rfl
theorem x43_20 (l0 l2 l3 l4 : Value) (l1 : Nat) (s0 : Nat) (H : HS) : rn 43 20 [l0, .ref l1, l2, l3, l4] [.ref s0] H = rn 43 21 [l0, .ref l1, l2, l3, l4] [.ref l1, .ref s0] H := rn_nx rfl
theorem x43_21 (l0 l1 l2 l3 l4 : Value) (s0 : Nat) (s1 : Nat) (H : HS) : rn 43 21 [l0, l1, l2, l3, l4] [.ref s0, .ref s1] H = qk 43 35 24 [l0, l1, l2, l3, l4] [] H (req H (.ref s1) (.ref s0)) := (rn_ev ..).trans (ev_qe rfl)
theorem x43_24 (l1 l2 l3 l4 : Value) (l0 : Nat) (H : HS) : rn 43 24 [.ref l0, l1, l2, l3, l4] [] H = rn 43 25 [.ref l0, l1, l2, l3, l4] [.ref l0] H := rn_nx rfl
theorem x43_25 (l0 l1 l2 l3 l4 : Value) (s0 : Nat) (H : HS) : rn 43 25 [l0, l1, l2, l3, l4] [.ref s0] H = gk 43 28 [l0, l1, l2, l3, l4] [] H (gfd H 1 4 s0) := (rn_ev ..).trans (ev_gk rfl)
theorem x43_28 (l0 l1 l3 l4 : Value) (l2 : Int32) (s0 : Nat) (H : HS) : rn 43 28 [l0, l1, .int l2, l3, l4] [.ref s0] H = rn 43 29 [l0, l1, .int l2, l3, l4] [.int l2, .ref s0] H := rn_nx rfl
theorem x43_29 (l0 l1 l2 l3 : Value) (l4 : Nat) (s0 : Int32) (s1 : Nat) (H : HS) : rn 43 29 [l0, l1, l2, l3, .ref l4] [.int s0, .ref s1] H = rn 43 31 [l0, l1, l2, l3, .ref l4] [.ref l4, .int s0, .ref s1] H := rn_nx rfl
theorem x43_31 (l0 l1 l2 l3 l4 : Value) (s0 : Nat) (s1 : Int32) (s2 : Nat) (H : HS) : rn 43 31 [l0, l1, l2, l3, l4] [.ref s0, .int s1, .ref s2] H = pk 43 32 [l0, l1, l2, l3, l4] [] (aast H s2 s1 s0) := (rn_ev ..).trans (ev_pk rfl)
theorem x43_32 (l0 l1 l3 l4 : Value) (l2 : Int32) (H : HS) : rn 43 32 [l0, l1, .int l2, l3, l4] [] H = rn 43 35 [l0, (kl l1), .int (l2 + 1), l3, l4] [] H := rn_nx rfl
theorem x43_35 (l0 l1 l2 l4 : Value) (l3 : Int32) (H : HS) : rn 43 35 [l0, l1, l2, .int l3, l4] [] H = rn 43 38 [l0, l1, (kl l2), .int (l3 + 1), l4] [] H := rn_nx rfl
theorem x43_38 (l0 l1 l2 l3 l4 : Value) (H : HS) : rn 43 38 [l0, l1, l2, l3, l4] [] H = rn 43 4 [l0, l1, l2, l3, l4] [] H := rn_nx rfl
theorem x43_41 (l1 l2 l3 l4 : Value) (l0 : Nat) (H : HS) : rn 43 41 [.ref l0, l1, l2, l3, l4] [] H = rn 43 42 [.ref l0, l1, l2, l3, l4] [.ref l0] H := rn_nx rfl
theorem x43_42 (l0 l1 l2 l3 l4 : Value) (s0 : Nat) (H : HS) : rn 43 42 [l0, l1, l2, l3, l4] [.ref s0] H = gk 43 45 [l0, l1, l2, l3, l4] [] H (gfd H 1 4 s0) := (rn_ev ..).trans (ev_gk rfl)
theorem x43_45 (l0 l1 l2 l3 l4 : Value) (s0 : Nat) (H : HS) : rn 43 45 [l0, l1, l2, l3, l4] [.ref s0] H = rn 43 46 [l0, l1, l2, l3, l4] [.int 5, .ref s0] H := rn_nx rfl
theorem x43_46 (l0 l2 l3 l4 : Value) (l1 : Nat) (s0 : Int32) (s1 : Nat) (H : HS) : rn 43 46 [l0, .ref l1, l2, l3, l4] [.int s0, .ref s1] H = rn 43 47 [l0, .ref l1, l2, l3, l4] [.ref l1, .int s0, .ref s1] H := rn_nx rfl
theorem x43_47 (l0 l1 l2 l3 l4 : Value) (s0 : Nat) (s1 : Int32) (s2 : Nat) (H : HS) : rn 43 47 [l0, l1, l2, l3, l4] [.ref s0, .int s1, .ref s2] H = pk 43 48 [l0, l1, l2, l3, l4] [] (aast H s2 s1 s0) := (rn_ev ..).trans (ev_pk rfl)
theorem x43_48 (l0 l2 l3 l4 : Value) (l1 : Nat) (H : HS) : rn 43 48 [l0, .ref l1, l2, l3, l4] [] H = rn 43 49 [l0, .ref l1, l2, l3, l4] [.ref l1] H := rn_nx rfl
theorem x43_49 (l0 l1 l2 l3 l4 : Value) (s0 : Nat) (H : HS) : rn 43 49 [l0, l1, l2, l3, l4] [.ref s0] H = rn 43 52 [l0, l1, l2, l3, l4] [.ref 1, .ref s0] H := rn_nx rfl
theorem x43_52 (l0 l1 l2 l3 l4 : Value) (s0 : Nat) (s1 : Nat) (H : HS) : rn 43 52 [l0, l1, l2, l3, l4] [.ref s0, .ref s1] H = pk 43 55 [l0, l1, l2, l3, l4] [] (pfd H true 2 0 s1 (.ref s0)) := (rn_ev ..).trans (ev_pk rfl)
theorem x43_55 (l1 l2 l3 l4 : Value) (l0 : Nat) (H : HS) : rn 43 55 [.ref l0, l1, l2, l3, l4] [] H = rn 43 56 [.ref l0, l1, l2, l3, l4] [.ref l0] H := rn_nx rfl
theorem x43_56 (l0 l1 l2 l3 l4 : Value) (s0 : Nat) (H : HS) : rn 43 56 [l0, l1, l2, l3, l4] [.ref s0] H = rn 43 57 [l0, l1, l2, l3, l4] [.ref s0, .ref s0] H := rn_nx rfl
theorem x43_57 (l0 l1 l2 l3 l4 : Value) (s0 : Nat) (s1 : Nat) (H : HS) : rn 43 57 [l0, l1, l2, l3, l4] [.ref s0, .ref s1] H = gk 43 60 [l0, l1, l2, l3, l4] [.ref s1] H (gfd H 1 5 s0) := (rn_ev ..).trans (ev_gk rfl)
theorem x43_60 (l0 l1 l2 l3 l4 : Value) (s0 : Int32) (s1 : Nat) (H : HS) : rn 43 60 [l0, l1, l2, l3, l4] [.int s0, .ref s1] H = rn 43 61 [l0, l1, l2, l3, l4] [.int 1, .int s0, .ref s1] H := rn_nx rfl
theorem x43_61 (l0 l1 l2 l3 l4 : Value) (s0 : Int32) (s1 : Int32) (s2 : Nat) (H : HS) : rn 43 61 [l0, l1, l2, l3, l4] [.int s0, .int s1, .ref s2] H = rn 43 62 [l0, l1, l2, l3, l4] [.int (s1 - s0), .ref s2] H := rn_nx rfl
theorem x43_62 (l0 l1 l2 l3 l4 : Value) (s0 : Int32) (s1 : Nat) (H : HS) : rn 43 62 [l0, l1, l2, l3, l4] [.int s0, .ref s1] H = pk 43 65 [l0, l1, l2, l3, l4] [] (pfd H true 1 5 s1 (.int s0)) := (rn_ev ..).trans (ev_pk rfl)
theorem x43_65 (l0 l1 l2 l3 l4 : Value) (H : HS) : rn 43 65 [l0, l1, l2, l3, l4] [] H = some (.inl none, H) := rn_end rfl
theorem c43 (a0 : Nat) (a1 : Nat) (H : HS) : rcal 43 [.ref a0, .ref a1] H = rn 43 0 [.ref a0, .ref a1, un, un, un] [] H := rfl
theorem x44_0 (l0 : Nat) (H : HS) : rn 44 0 [.ref l0] [] H = rn 44 1 [.ref l0] [.ref l0] H := rn_nx rfl
theorem x44_1 (l0 : Value) (s0 : Nat) (H : HS) : rn 44 1 [l0] [.ref s0] H = rn 44 2 [l0] [.ref s0, .ref s0] H := rn_nx rfl
theorem x44_2 (l0 : Value) (s0 : Nat) (s1 : Nat) (H : HS) : rn 44 2 [l0] [.ref s0, .ref s1] H = gk 44 5 [l0] [.ref s1] H (gfd H 1 7 s0) := (rn_ev ..).trans (ev_gk rfl)
theorem x44_5 (l0 : Value) (s0 : Int32) (s1 : Nat) (H : HS) : rn 44 5 [l0] [.int s0, .ref s1] H = rn 44 6 [l0] [.int 1, .int s0, .ref s1] H := rn_nx rfl
theorem x44_6 (l0 : Value) (s0 : Int32) (s1 : Int32) (s2 : Nat) (H : HS) : rn 44 6 [l0] [.int s0, .int s1, .ref s2] H = rn 44 7 [l0] [.int (s1 + s0), .ref s2] H := rn_nx rfl
theorem x44_7 (l0 : Value) (s0 : Int32) (s1 : Nat) (H : HS) : rn 44 7 [l0] [.int s0, .ref s1] H = pk 44 10 [l0] [] (pfd H true 1 7 s1 (.int s0)) := (rn_ev ..).trans (ev_pk rfl)
theorem x44_10 (l0 : Nat) (H : HS) : rn 44 10 [.ref l0] [] H = rn 44 11 [.ref l0] [.ref l0] H := rn_nx rfl
theorem x44_11 (l0 : Value) (s0 : Nat) (H : HS) (h : recv H s0 1 = true) : rn 44 11 [l0] [.ref s0] H = bnd true 44 11 [l0] [] (rcal 45 [.ref s0] H) := rn_cal (vcal h rfl)
theorem x44_14 (l0 : Nat) (H : HS) : rn 44 14 [.ref l0] [] H = rn 44 15 [.ref l0] [.ref l0] H := rn_nx rfl
theorem x44_15 (l0 : Value) (s0 : Nat) (H : HS) (h : recv H s0 1 = true) : rn 44 15 [l0] [.ref s0] H = bnd true 44 15 [l0] [] (rcal 47 [.ref s0] H) := rn_cal (vcal h rfl)
theorem x44_18 (l0 : Nat) (H : HS) : rn 44 18 [.ref l0] [] H = rn 44 19 [.ref l0] [.ref l0] H := rn_nx rfl
theorem x44_19 (l0 : Value) (s0 : Nat) (H : HS) (h : recv H s0 1 = true) : rn 44 19 [l0] [.ref s0] H = bnd true 44 19 [l0] [] (rcal 48 [.ref s0] H) := rn_cal (vcal h rfl)
theorem x44_22 (l0 : Value) (H : HS) : rn 44 22 [l0] [] H = some (.inl none, H) := rn_end rfl
theorem c44 (a0 : Nat) (H : HS) : rcal 44 [.ref a0] H = rn 44 0 [.ref a0] [] H := rfl
theorem x45_0 (l0 l1 l2 : Value) (H : HS) : rn 45 0 [l0, l1, l2] [] H = rn 45 1 [l0, l1, l2] [.int 0] H := rn_nx rfl
theorem x45_1 (l0 l1 l2 : Value) (s0 : Int32) (H : HS) : rn 45 1 [l0, l1, l2] [.int s0] H = rn 45 2 [(kl l0), .int s0, l2] [] H := rn_nx rfl
theorem x45_2 (l0 l2 : Value) (l1 : Int32) (H : HS) : rn 45 2 [l0, .int l1, l2] [] H = rn 45 3 [l0, .int l1, l2] [.int l1] H := rn_nx rfl
theorem x45_3 (l1 l2 : Value) (l0 : Nat) (s0 : Int32) (H : HS) : rn 45 3 [.ref l0, l1, l2] [.int s0] H = rn 45 4 [.ref l0, l1, l2] [.ref l0, .int s0] H := rn_nx rfl
theorem x45_4 (l0 l1 l2 : Value) (s0 : Nat) (s1 : Int32) (H : HS) : rn 45 4 [l0, l1, l2] [.ref s0, .int s1] H = gk 45 7 [l0, l1, l2] [.int s1] H (gfd H 1 0 s0) := (rn_ev ..).trans (ev_gk rfl)
theorem x45_7 (l0 l1 l2 : Value) (s0 : Int32) (s1 : Int32) (H : HS) : rn 45 7 [l0, l1, l2] [.int s0, .int s1] H = rn 45 8 [l0, l1, l2] [.int 1, .int s0, .int s1] H := rn_nx rfl
theorem x45_8 (l0 l1 l2 : Value) (s0 : Int32) (s1 : Int32) (s2 : Int32) (H : HS) : rn 45 8 [l0, l1, l2] [.int s0, .int s1, .int s2] H = rn 45 9 [l0, l1, l2] [.int (s1 - s0), .int s2] H := rn_nx rfl
theorem x45_9 (l0 l1 l2 : Value) (s0 : Int32) (s1 : Int32) (H : HS) : rn 45 9 [l0, l1, l2] [.int s0, .int s1] H = if s1 < s0 then rn 45 12 [l0, l1, l2] [] H else rn 45 50 [l0, l1, l2] [] H := (rn_ev ..).trans (ev_bin rfl)
theorem x45_12 (l1 l2 : Value) (l0 : Nat) (H : HS) : rn 45 12 [.ref l0, l1, l2] [] H = rn 45 13 [.ref l0, l1, l2] [.ref l0] H := rn_nx rfl
theorem x45_13 (l0 l2 : Value) (l1 : Int32) (s0 : Nat) (H : HS) : rn 45 13 [l0, .int l1, l2] [.ref s0] H = rn 45 14 [l0, .int l1, l2] [.int l1, .ref s0] H := rn_nx rfl
theorem x45_14 (l0 l1 l2 : Value) (s0 : Int32) (s1 : Nat) (H : HS) (h : recv H s1 1 = true) : rn 45 14 [l0, l1, l2] [.int s0, .ref s1] H = bnd true 45 14 [l0, l1, l2] [] (rcal 59 [.ref s1, .int s0] H) := rn_cal (vcal h rfl)
theorem x45_17 (l0 l1 l2 : Value) (H : HS) : rn 45 17 [l0, l1, l2] [.null] H = rn 45 18 [l0, (kl l1), .null] [] H := rn_nx rfl
theorem x45_18 (l0 l1 : Value) (l2 : Nat) (H : HS) : rn 45 18 [l0, l1, .ref l2] [] H = rn 45 19 [l0, l1, .ref l2] [.ref l2] H := rn_nx rfl
theorem x45_18n (l0 l1 : Value) (H : HS) : rn 45 18 [l0, l1, .null] [] H = rn 45 19 [l0, l1, .null] [.null] H := rn_nx rfl
theorem x45_19 (l0 l1 l2 : Value) (H : HS) : rn 45 19 [l0, l1, l2] [.null] H = rn 45 44 [l0, l1, l2] [] H := rn_nx rfl
theorem x45_44 (l0 l2 : Value) (l1 : Int32) (H : HS) : rn 45 44 [l0, .int l1, l2] [] H = rn 45 47 [(kl l0), .int (l1 + 1), l2] [] H := rn_nx rfl
theorem x45_47 (l0 l1 l2 : Value) (H : HS) : rn 45 47 [l0, l1, l2] [] H = rn 45 2 [l0, l1, l2] [] H := rn_nx rfl
theorem x45_19a (l0 l1 l2 : Value) (s0 : Nat) (H : HS) : rn 45 19 [l0, l1, l2] [.ref s0] H = rn 45 22 [l0, l1, l2] [] H := rn_nx rfl
theorem x45_22 (l0 l1 : Value) (l2 : Nat) (H : HS) : rn 45 22 [l0, l1, .ref l2] [] H = rn 45 23 [l0, l1, .ref l2] [.ref l2] H := rn_nx rfl
theorem x45_23 (l0 l1 l2 : Value) (s0 : Nat) (H : HS) : rn 45 23 [l0, l1, l2] [.ref s0] H = rn 45 24 [l0, l1, l2] [.ref s0, .ref s0] H := rn_nx rfl
theorem x45_24 (l0 l1 l2 : Value) (s0 : Nat) (s1 : Nat) (H : HS) : rn 45 24 [l0, l1, l2] [.ref s0, .ref s1] H = gk 45 27 [l0, l1, l2] [.ref s1] H (gfd H 2 8 s0) := (rn_ev ..).trans (ev_gk rfl)
theorem x45_27 (l0 l1 l2 : Value) (s0 : Int32) (s1 : Nat) (H : HS) : rn 45 27 [l0, l1, l2] [.int s0, .ref s1] H = rn 45 28 [l0, l1, l2] [.int 1, .int s0, .ref s1] H := rn_nx rfl
theorem x45_28 (l0 l1 l2 : Value) (s0 : Int32) (s1 : Int32) (s2 : Nat) (H : HS) : rn 45 28 [l0, l1, l2] [.int s0, .int s1, .ref s2] H = rn 45 29 [l0, l1, l2] [.int (s1 - s0), .ref s2] H := rn_nx rfl
theorem x45_29 (l0 l1 l2 : Value) (s0 : Int32) (s1 : Nat) (H : HS) : rn 45 29 [l0, l1, l2] [.int s0, .ref s1] H = pk 45 32 [l0, l1, l2] [] (pfd H true 2 8 s1 (.int s0)) := (rn_ev ..).trans (ev_pk rfl)
theorem x45_32 (l0 l1 : Value) (l2 : Nat) (H : HS) : rn 45 32 [l0, l1, .ref l2] [] H = rn 45 33 [l0, l1, .ref l2] [.ref l2] H := rn_nx rfl
theorem x45_33 (l0 l1 l2 : Value) (s0 : Nat) (H : HS) : rn 45 33 [l0, l1, l2] [.ref s0] H = gk 45 36 [l0, l1, l2] [] H (gfd H 2 8 s0) := (rn_ev ..).trans (ev_gk rfl)
theorem x45_36 (l0 l1 l2 : Value) (s0 : Int32) (H : HS) : rn 45 36 [l0, l1, l2] [.int s0] H = if 0 < s0 then rn 45 44 [l0, l1, l2] [] H else rn 45 39 [l0, l1, l2] [] H := (rn_ev ..).trans (ev_bif rfl)
theorem x45_39 (l1 l2 : Value) (l0 : Nat) (H : HS) : rn 45 39 [.ref l0, l1, l2] [] H = rn 45 40 [.ref l0, l1, l2] [.ref l0] H := rn_nx rfl
theorem x45_40 (l0 l1 : Value) (l2 : Nat) (s0 : Nat) (H : HS) : rn 45 40 [l0, l1, .ref l2] [.ref s0] H = rn 45 41 [l0, l1, .ref l2] [.ref l2, .ref s0] H := rn_nx rfl
theorem x45_41 (l0 l1 l2 : Value) (s0 : Nat) (s1 : Nat) (H : HS) (h : recv H s1 1 = true) : rn 45 41 [l0, l1, l2] [.ref s0, .ref s1] H = bnd true 45 41 [l0, l1, l2] [] (rcal 46 [.ref s1, .ref s0] H) := rn_cal (vcal h rfl)
theorem x45_17a (l0 l1 l2 : Value) (s0 : Nat) (H : HS) : rn 45 17 [l0, l1, l2] [.ref s0] H = rn 45 18 [l0, (kl l1), .ref s0] [] H := rn_nx rfl
theorem x45_50 (l0 l1 l2 : Value) (H : HS) : rn 45 50 [l0, l1, l2] [] H = some (.inl none, H) := rn_end rfl
theorem c45 (a0 : Nat) (H : HS) : rcal 45 [.ref a0] H = rn 45 0 [.ref a0, un, un] [] H := rfl
theorem x46_0 (l0 l2 : Value) (l1 : Nat) (H : HS) : rn 46 0 [l0, .ref l1, l2] [] H = rn 46 1 [l0, .ref l1, l2] [.ref l1] H := rn_nx rfl
theorem x46_1 (l0 l1 l2 : Value) (s0 : Nat) (H : HS) : rn 46 1 [l0, l1, l2] [.ref s0] H = gk 46 4 [l0, l1, l2] [] H (gfd H 2 6 s0) := (rn_ev ..).trans (ev_gk rfl)
theorem x46_4 (l0 l2 : Value) (l1 : Nat) (s0 : Int32) (H : HS) : rn 46 4 [l0, .ref l1, l2] [.int s0] H = rn 46 5 [l0, .ref l1, l2] [.ref l1, .int s0] H := rn_nx rfl
theorem x46_5 (l0 l1 l2 : Value) (s0 : Nat) (s1 : Int32) (H : HS) : rn 46 5 [l0, l1, l2] [.ref s0, .int s1] H = gk 46 8 [l0, l1, l2] [.int s1] H (gfd H 2 3 s0) := (rn_ev ..).trans (ev_gk rfl)
theorem x46_8 (l0 l1 l2 : Value) (s0 : Int32) (s1 : Int32) (H : HS) : rn 46 8 [l0, l1, l2] [.int s0, .int s1] H = if s1 = s0 then rn 46 24 [l0, l1, l2] [] H else rn 46 11 [l0, l1, l2] [] H := (rn_ev ..).trans (ev_bif rfl)
theorem x46_11 (l0 l2 : Value) (l1 : Nat) (H : HS) : rn 46 11 [l0, .ref l1, l2] [] H = rn 46 12 [l0, .ref l1, l2] [.ref l1] H := rn_nx rfl
theorem x46_12 (l0 l2 : Value) (l1 : Nat) (s0 : Nat) (H : HS) : rn 46 12 [l0, .ref l1, l2] [.ref s0] H = rn 46 13 [l0, .ref l1, l2] [.ref l1, .ref s0] H := rn_nx rfl
theorem x46_13 (l0 l1 l2 : Value) (s0 : Nat) (s1 : Nat) (H : HS) : rn 46 13 [l0, l1, l2] [.ref s0, .ref s1] H = gk 46 16 [l0, l1, l2] [.ref s1] H (gfd H 2 6 s0) := (rn_ev ..).trans (ev_gk rfl)
theorem x46_16 (l1 l2 : Value) (l0 : Nat) (s0 : Int32) (s1 : Nat) (H : HS) : rn 46 16 [.ref l0, l1, l2] [.int s0, .ref s1] H = rn 46 17 [.ref l0, l1, l2] [.ref l0, .int s0, .ref s1] H := rn_nx rfl
theorem x46_17 (l0 l1 l2 : Value) (s0 : Nat) (s1 : Int32) (s2 : Nat) (H : HS) : rn 46 17 [l0, l1, l2] [.ref s0, .int s1, .ref s2] H = gk 46 20 [l0, l1, l2] [.int s1, .ref s2] H (gfd H 1 7 s0) := (rn_ev ..).trans (ev_gk rfl)
theorem x46_20 (l0 l1 l2 : Value) (s0 : Int32) (s1 : Int32) (s2 : Nat) (H : HS) (h : recv H s2 2 = true) : rn 46 20 [l0, l1, l2] [.int s0, .int s1, .ref s2] H = bnd true 46 20 [l0, l1, l2] [] (rcal 85 [.ref s2, .int s1, .int s0] H) := rn_cal (vcal h rfl)
theorem x46_23 (l0 l1 l2 : Value) (H : HS) : rn 46 23 [l0, l1, l2] [] H = some (.inl none, H) := rn_end rfl
theorem x46_24 (l1 l2 : Value) (l0 : Nat) (H : HS) : rn 46 24 [.ref l0, l1, l2] [] H = rn 46 25 [.ref l0, l1, l2] [.ref l0] H := rn_nx rfl
theorem x46_25 (l0 l1 l2 : Value) (s0 : Nat) (H : HS) : rn 46 25 [l0, l1, l2] [.ref s0] H = gk 46 28 [l0, l1, l2] [] H (gfd H 1 7 s0) := (rn_ev ..).trans (ev_gk rfl)
theorem x46_28 (l0 l2 : Value) (l1 : Nat) (s0 : Int32) (H : HS) : rn 46 28 [l0, .ref l1, l2] [.int s0] H = rn 46 29 [l0, .ref l1, l2] [.ref l1, .int s0] H := rn_nx rfl
theorem x46_29 (l0 l1 l2 : Value) (s0 : Nat) (s1 : Int32) (H : HS) : rn 46 29 [l0, l1, l2] [.ref s0, .int s1] H = gk 46 32 [l0, l1, l2] [.int s1] H (gfd H 2 5 s0) := (rn_ev ..).trans (ev_gk rfl)
theorem x46_32 (l0 l1 l2 : Value) (s0 : Int32) (s1 : Int32) (H : HS) : rn 46 32 [l0, l1, l2] [.int s0, .int s1] H = rn 46 33 [l0, l1, l2] [.int (s1 - s0)] H := rn_nx rfl
theorem x46_33 (l0 l1 l2 : Value) (s0 : Int32) (H : HS) : rn 46 33 [l0, l1, l2] [.int s0] H = rn 46 34 [l0, (kl l1), .int s0] [] H := rn_nx rfl
theorem x46_34 (l1 l2 : Value) (l0 : Nat) (H : HS) : rn 46 34 [.ref l0, l1, l2] [] H = rn 46 35 [.ref l0, l1, l2] [.ref l0] H := rn_nx rfl
theorem x46_35 (l1 l2 : Value) (l0 : Nat) (s0 : Nat) (H : HS) : rn 46 35 [.ref l0, l1, l2] [.ref s0] H = rn 46 36 [.ref l0, l1, l2] [.ref l0, .ref s0] H := rn_nx rfl
theorem x46_36 (l0 l1 l2 : Value) (s0 : Nat) (s1 : Nat) (H : HS) : rn 46 36 [l0, l1, l2] [.ref s0, .ref s1] H = gk 46 39 [l0, l1, l2] [.ref s1] H (gfd H 1 11 s0) := (rn_ev ..).trans (ev_gk rfl)
theorem x46_39 (l0 l1 : Value) (l2 : Int32) (s0 : Int32) (s1 : Nat) (H : HS) : rn 46 39 [l0, l1, .int l2] [.int s0, .ref s1] H = rn 46 40 [l0, l1, .int l2] [.int l2, .int s0, .ref s1] H := rn_nx rfl
theorem x46_40 (l0 l1 l2 : Value) (s0 : Int32) (s1 : Int32) (s2 : Nat) (H : HS) : rn 46 40 [l0, l1, l2] [.int s0, .int s1, .ref s2] H = rn 46 43 [l0, l1, l2] [.int (if s1 < s0 then s0 else s1), .ref s2] H := rn_nx rfl
theorem x46_43 (l0 l1 l2 : Value) (s0 : Int32) (s1 : Nat) (H : HS) : rn 46 43 [l0, l1, l2] [.int s0, .ref s1] H = pk 46 46 [l0, l1, l2] [] (pfd H true 1 11 s1 (.int s0)) := (rn_ev ..).trans (ev_pk rfl)
theorem x46_46 (l0 l1 : Value) (l2 : Int32) (H : HS) : rn 46 46 [l0, l1, .int l2] [] H = rn 46 47 [l0, l1, .int l2] [.int l2] H := rn_nx rfl
theorem x46_47 (l0 l1 l2 : Value) (s0 : Int32) (H : HS) : rn 46 47 [l0, l1, l2] [.int s0] H = if s0 = 0 then rn 46 50 [l0, l1, l2] [] H else rn 46 60 [l0, l1, l2] [] H := (rn_ev ..).trans (ev_bin rfl)
theorem x46_50 (l1 l2 : Value) (l0 : Nat) (H : HS) : rn 46 50 [.ref l0, l1, l2] [] H = rn 46 51 [.ref l0, l1, l2] [.ref l0] H := rn_nx rfl
theorem x46_51 (l0 l1 l2 : Value) (s0 : Nat) (H : HS) : rn 46 51 [l0, l1, l2] [.ref s0] H = rn 46 52 [l0, l1, l2] [.ref s0, .ref s0] H := rn_nx rfl
theorem x46_52 (l0 l1 l2 : Value) (s0 : Nat) (s1 : Nat) (H : HS) : rn 46 52 [l0, l1, l2] [.ref s0, .ref s1] H = gk 46 55 [l0, l1, l2] [.ref s1] H (gfd H 1 12 s0) := (rn_ev ..).trans (ev_gk rfl)
theorem x46_55 (l0 l1 l2 : Value) (s0 : Int32) (s1 : Nat) (H : HS) : rn 46 55 [l0, l1, l2] [.int s0, .ref s1] H = rn 46 56 [l0, l1, l2] [.int 1, .int s0, .ref s1] H := rn_nx rfl
theorem x46_56 (l0 l1 l2 : Value) (s0 : Int32) (s1 : Int32) (s2 : Nat) (H : HS) : rn 46 56 [l0, l1, l2] [.int s0, .int s1, .ref s2] H = rn 46 57 [l0, l1, l2] [.int (s1 + s0), .ref s2] H := rn_nx rfl
theorem x46_57 (l0 l1 l2 : Value) (s0 : Int32) (s1 : Nat) (H : HS) : rn 46 57 [l0, l1, l2] [.int s0, .ref s1] H = pk 46 60 [l0, l1, l2] [] (pfd H true 1 12 s1 (.int s0)) := (rn_ev ..).trans (ev_pk rfl)
theorem x46_60 (l1 l2 : Value) (l0 : Nat) (H : HS) : rn 46 60 [.ref l0, l1, l2] [] H = rn 46 61 [.ref l0, l1, l2] [.ref l0] H := rn_nx rfl
theorem x46_61 (l0 l1 l2 : Value) (s0 : Nat) (H : HS) : rn 46 61 [l0, l1, l2] [.ref s0] H = rn 46 62 [l0, l1, l2] [.ref s0, .ref s0] H := rn_nx rfl
theorem x46_62 (l0 l1 l2 : Value) (s0 : Nat) (s1 : Nat) (H : HS) : rn 46 62 [l0, l1, l2] [.ref s0, .ref s1] H = gk 46 65 [l0, l1, l2] [.ref s1] H (gfd H 1 10 s0) := (rn_ev ..).trans (ev_gk rfl)
theorem x46_65 (l0 l1 : Value) (l2 : Int32) (s0 : Int64) (s1 : Nat) (H : HS) : rn 46 65 [l0, l1, .int l2] [.long s0, .ref s1] H = rn 46 66 [l0, l1, .int l2] [.int l2, .long s0, .ref s1] H := rn_nx rfl
theorem x46_66 (l0 l1 l2 : Value) (s0 : Int32) (s1 : Int64) (s2 : Nat) (H : HS) : rn 46 66 [l0, l1, l2] [.int s0, .long s1, .ref s2] H = rn 46 67 [l0, l1, l2] [.long s0.toInt64, .long s1, .ref s2] H := rn_nx rfl
theorem x46_67 (l0 l1 l2 : Value) (s0 : Int64) (s1 : Int64) (s2 : Nat) (H : HS) : rn 46 67 [l0, l1, l2] [.long s0, .long s1, .ref s2] H = rn 46 68 [l0, l1, l2] [.long (s1 + s0), .ref s2] H := rn_nx rfl
theorem x46_68 (l0 l1 l2 : Value) (s0 : Int64) (s1 : Nat) (H : HS) : rn 46 68 [l0, l1, l2] [.long s0, .ref s1] H = pk 46 71 [l0, l1, l2] [] (pfd H true 1 10 s1 (.long s0)) := (rn_ev ..).trans (ev_pk rfl)
theorem x46_71 (l1 l2 : Value) (l0 : Nat) (H : HS) : rn 46 71 [.ref l0, l1, l2] [] H = rn 46 72 [.ref l0, l1, l2] [.ref l0] H := rn_nx rfl
theorem x46_72 (l0 l1 l2 : Value) (s0 : Nat) (H : HS) : rn 46 72 [l0, l1, l2] [.ref s0] H = rn 46 73 [l0, l1, l2] [.ref s0, .ref s0] H := rn_nx rfl
theorem x46_73 (l0 l1 l2 : Value) (s0 : Nat) (s1 : Nat) (H : HS) : rn 46 73 [l0, l1, l2] [.ref s0, .ref s1] H = gk 46 76 [l0, l1, l2] [.ref s1] H (gfd H 1 8 s0) := (rn_ev ..).trans (ev_gk rfl)
theorem x46_76 (l0 l1 l2 : Value) (s0 : Int32) (s1 : Nat) (H : HS) : rn 46 76 [l0, l1, l2] [.int s0, .ref s1] H = rn 46 77 [l0, l1, l2] [.int 1, .int s0, .ref s1] H := rn_nx rfl
theorem x46_77 (l0 l1 l2 : Value) (s0 : Int32) (s1 : Int32) (s2 : Nat) (H : HS) : rn 46 77 [l0, l1, l2] [.int s0, .int s1, .ref s2] H = rn 46 78 [l0, l1, l2] [.int (s1 + s0), .ref s2] H := rn_nx rfl
theorem x46_78 (l0 l1 l2 : Value) (s0 : Int32) (s1 : Nat) (H : HS) : rn 46 78 [l0, l1, l2] [.int s0, .ref s1] H = pk 46 81 [l0, l1, l2] [] (pfd H true 1 8 s1 (.int s0)) := (rn_ev ..).trans (ev_pk rfl)
theorem x46_81 (l1 l2 : Value) (l0 : Nat) (H : HS) : rn 46 81 [.ref l0, l1, l2] [] H = rn 46 82 [.ref l0, l1, l2] [.ref l0] H := rn_nx rfl
theorem x46_82 (l0 l2 : Value) (l1 : Nat) (s0 : Nat) (H : HS) : rn 46 82 [l0, .ref l1, l2] [.ref s0] H = rn 46 83 [l0, .ref l1, l2] [.ref l1, .ref s0] H := rn_nx rfl
theorem x46_83 (l0 l1 l2 : Value) (s0 : Nat) (s1 : Nat) (H : HS) : rn 46 83 [l0, l1, l2] [.ref s0, .ref s1] H = gk 46 86 [l0, l1, l2] [.ref s1] H (gfd H 2 1 s0) := (rn_ev ..).trans (ev_gk rfl)
theorem x46_86 (l0 l1 l2 : Value) (s0 : Int32) (s1 : Nat) (H : HS) : rn 46 86 [l0, l1, l2] [.int s0, .ref s1] H = pk 46 89 [l0, l1, l2] [] (pfd H true 1 9 s1 (.int s0)) := (rn_ev ..).trans (ev_pk rfl)
theorem x46_89 (l1 l2 : Value) (l0 : Nat) (H : HS) : rn 46 89 [.ref l0, l1, l2] [] H = rn 46 90 [.ref l0, l1, l2] [.ref l0] H := rn_nx rfl
theorem x46_90 (l0 l2 : Value) (l1 : Nat) (s0 : Nat) (H : HS) : rn 46 90 [l0, .ref l1, l2] [.ref s0] H = rn 46 91 [l0, .ref l1, l2] [.ref l1, .ref s0] H := rn_nx rfl
theorem x46_91 (l0 l1 l2 : Value) (s0 : Nat) (s1 : Nat) (H : HS) (h : recv H s1 1 = true) : rn 46 91 [l0, l1, l2] [.ref s0, .ref s1] H = bnd true 46 91 [l0, l1, l2] [] (rcal 43 [.ref s1, .ref s0] H) := rn_cal (vcal h rfl)
theorem x46_94 (l0 l1 l2 : Value) (H : HS) : rn 46 94 [l0, l1, l2] [] H = some (.inl none, H) := rn_end rfl
theorem c46 (a0 : Nat) (a1 : Nat) (H : HS) : rcal 46 [.ref a0, .ref a1] H = rn 46 0 [.ref a0, .ref a1, un] [] H := rfl
theorem x47_0 (l1 l2 l3 l4 : Value) (l0 : Nat) (H : HS) : rn 47 0 [.ref l0, l1, l2, l3, l4] [] H = rn 47 1 [.ref l0, l1, l2, l3, l4] [.ref l0] H := rn_nx rfl
theorem x47_1 (l0 l1 l2 l3 l4 : Value) (s0 : Nat) (H : HS) : rn 47 1 [l0, l1, l2, l3, l4] [.ref s0] H = gk 47 4 [l0, l1, l2, l3, l4] [] H (gfd H 1 4 s0) := (rn_ev ..).trans (ev_gk rfl)
theorem x47_4 (l0 l1 l2 l3 l4 : Value) (s0 : Nat) (H : HS) : rn 47 4 [l0, l1, l2, l3, l4] [.ref s0] H = rn 47 5 [(kl l0), .ref s0, l2, l3, l4] [] H := rn_nx rfl
theorem x47_5 (l0 l2 l3 l4 : Value) (l1 : Nat) (H : HS) : rn 47 5 [l0, .ref l1, l2, l3, l4] [] H = rn 47 6 [l0, .ref l1, l2, l3, l4] [.ref l1] H := rn_nx rfl
theorem x47_6 (l0 l1 l2 l3 l4 : Value) (s0 : Nat) (H : HS) : rn 47 6 [l0, l1, l2, l3, l4] [.ref s0] H = gk 47 7 [l0, l1, l2, l3, l4] [] H (alen H s0) := (rn_ev ..).trans (ev_gk rfl)
theorem x47_7 (l0 l1 l2 l3 l4 : Value) (s0 : Int32) (H : HS) : rn 47 7 [l0, l1, l2, l3, l4] [.int s0] H = rn 47 8 [l0, (kl l1), .int s0, l3, l4] [] H := rn_nx rfl
theorem x47_8 (l0 l1 l2 l3 l4 : Value) (H : HS) : rn 47 8 [l0, l1, l2, l3, l4] [] H = rn 47 9 [l0, l1, l2, l3, l4] [.int 0] H := rn_nx rfl
theorem x47_9 (l0 l1 l2 l3 l4 : Value) (s0 : Int32) (H : HS) : rn 47 9 [l0, l1, l2, l3, l4] [.int s0] H = rn 47 10 [l0, l1, (kl l2), .int s0, l4] [] H := rn_nx rfl
theorem x47_10 (l0 l1 l2 l4 : Value) (l3 : Int32) (H : HS) : rn 47 10 [l0, l1, l2, .int l3, l4] [] H = rn 47 11 [l0, l1, l2, .int l3, l4] [.int l3] H := rn_nx rfl
theorem x47_11 (l0 l1 l3 l4 : Value) (l2 : Int32) (s0 : Int32) (H : HS) : rn 47 11 [l0, l1, .int l2, l3, l4] [.int s0] H = rn 47 12 [l0, l1, .int l2, l3, l4] [.int l2, .int s0] H := rn_nx rfl
theorem x47_12 (l0 l1 l2 l3 l4 : Value) (s0 : Int32) (s1 : Int32) (H : HS) : rn 47 12 [l0, l1, l2, l3, l4] [.int s0, .int s1] H = if s1 < s0 then rn 47 15 [l0, l1, l2, l3, l4] [] H else rn 47 75 [l0, l1, l2, l3, l4] [] H := (rn_ev ..).trans (ev_bin rfl)
theorem x47_15 (l0 l2 l3 l4 : Value) (l1 : Nat) (H : HS) : rn 47 15 [l0, .ref l1, l2, l3, l4] [] H = rn 47 16 [l0, .ref l1, l2, l3, l4] [.ref l1] H := rn_nx rfl
theorem x47_16 (l0 l1 l2 l4 : Value) (l3 : Int32) (s0 : Nat) (H : HS) : rn 47 16 [l0, l1, l2, .int l3, l4] [.ref s0] H = rn 47 17 [l0, l1, l2, .int l3, l4] [.int l3, .ref s0] H := rn_nx rfl
theorem x47_17 (l0 l1 l2 l3 l4 : Value) (s0 : Int32) (s1 : Nat) (H : HS) : rn 47 17 [l0, l1, l2, l3, l4] [.int s0, .ref s1] H = gk 47 18 [l0, l1, l2, l3, l4] [] H (aald H s1 s0) := (rn_ev ..).trans (ev_gk rfl)
theorem x47_18 (l0 l1 l2 l3 l4 : Value) (s0 : Nat) (H : HS) : rn 47 18 [l0, l1, l2, l3, l4] [.ref s0] H = rn 47 20 [l0, l1, l2, (kl l3), .ref s0] [] H := rn_nx rfl
theorem x47_20 (l0 l1 l2 l3 : Value) (l4 : Nat) (H : HS) : rn 47 20 [l0, l1, l2, l3, .ref l4] [] H = rn 47 22 [l0, l1, l2, l3, .ref l4] [.ref l4] H := rn_nx rfl
theorem x47_22 (l0 l1 l2 l3 l4 : Value) (s0 : Nat) (H : HS) : rn 47 22 [l0, l1, l2, l3, l4] [.ref s0] H = gk 47 25 [l0, l1, l2, l3, l4] [] H (gfd H 2 0 s0) := (rn_ev ..).trans (ev_gk rfl)
theorem x47_25 (l0 l1 l2 l3 l4 : Value) (s0 : Nat) (H : HS) : rn 47 25 [l0, l1, l2, l3, l4] [.ref s0] H = rn 47 28 [l0, l1, l2, l3, l4] [.ref 2, .ref s0] H := rn_nx rfl
theorem x47_28 (l0 l1 l2 l3 l4 : Value) (s0 : Nat) (s1 : Nat) (H : HS) : rn 47 28 [l0, l1, l2, l3, l4] [.ref s0, .ref s1] H = qk 47 31 69 [l0, l1, l2, l3, l4] [] H (req H (.ref s1) (.ref s0)) := (rn_ev ..).trans (ev_qn rfl)
theorem x47_31 (l0 l1 l2 l3 : Value) (l4 : Nat) (H : HS) : rn 47 31 [l0, l1, l2, l3, .ref l4] [] H = rn 47 33 [l0, l1, l2, l3, .ref l4] [.ref l4] H := rn_nx rfl
theorem x47_33 (l0 l1 l2 l3 l4 : Value) (s0 : Nat) (H : HS) : rn 47 33 [l0, l1, l2, l3, l4] [.ref s0] H = gk 47 36 [l0, l1, l2, l3, l4] [] H (gfd H 2 4 s0) := (rn_ev ..).trans (ev_gk rfl)
theorem x47_36 (l1 l2 l3 l4 : Value) (l0 : Nat) (s0 : Int32) (H : HS) : rn 47 36 [.ref l0, l1, l2, l3, l4] [.int s0] H = rn 47 37 [.ref l0, l1, l2, l3, l4] [.ref l0, .int s0] H := rn_nx rfl
theorem x47_37 (l0 l1 l2 l3 l4 : Value) (s0 : Nat) (s1 : Int32) (H : HS) : rn 47 37 [l0, l1, l2, l3, l4] [.ref s0, .int s1] H = gk 47 40 [l0, l1, l2, l3, l4] [.int s1] H (gfd H 1 7 s0) := (rn_ev ..).trans (ev_gk rfl)
theorem x47_40 (l0 l1 l2 l3 l4 : Value) (s0 : Int32) (s1 : Int32) (H : HS) : rn 47 40 [l0, l1, l2, l3, l4] [.int s0, .int s1] H = if s0 < s1 then rn 47 69 [l0, l1, l2, l3, l4] [] H else rn 47 43 [l0, l1, l2, l3, l4] [] H := (rn_ev ..).trans (ev_bif rfl)
theorem x47_43 (l1 l2 l3 l4 : Value) (l0 : Nat) (H : HS) : rn 47 43 [.ref l0, l1, l2, l3, l4] [] H = rn 47 44 [.ref l0, l1, l2, l3, l4] [.ref l0] H := rn_nx rfl
theorem x47_44 (l0 l1 l2 l3 : Value) (l4 : Nat) (s0 : Nat) (H : HS) : rn 47 44 [l0, l1, l2, l3, .ref l4] [.ref s0] H = rn 47 46 [l0, l1, l2, l3, .ref l4] [.ref l4, .ref s0] H := rn_nx rfl
theorem x47_46 (l0 l1 l2 l3 l4 : Value) (s0 : Nat) (s1 : Nat) (H : HS) : rn 47 46 [l0, l1, l2, l3, l4] [.ref s0, .ref s1] H = gk 47 49 [l0, l1, l2, l3, l4] [.ref s1] H (gfd H 2 2 s0) := (rn_ev ..).trans (ev_gk rfl)
theorem x47_49 (l0 l1 l2 l3 l4 : Value) (s0 : Int32) (s1 : Nat) (H : HS) (h : recv H s1 1 = true) : rn 47 49 [l0, l1, l2, l3, l4] [.int s0, .ref s1] H = bnd true 47 49 [l0, l1, l2, l3, l4] [] (rcal 60 [.ref s1, .int s0] H) := rn_cal (vcal h rfl)
theorem x47_52 (l0 l1 l2 l3 l4 : Value) (s0 : Int32) (H : HS) : rn 47 52 [l0, l1, l2, l3, l4] [.int s0] H = if 0 < s0 then rn 47 55 [l0, l1, l2, l3, l4] [] H else rn 47 69 [l0, l1, l2, l3, l4] [] H := (rn_ev ..).trans (ev_bin rfl)
theorem x47_55 (l0 l1 l2 l3 : Value) (l4 : Nat) (H : HS) : rn 47 55 [l0, l1, l2, l3, .ref l4] [] H = rn 47 57 [l0, l1, l2, l3, .ref l4] [.ref l4] H := rn_nx rfl
theorem x47_57 (l0 l1 l2 l3 : Value) (l4 : Nat) (s0 : Nat) (H : HS) : rn 47 57 [l0, l1, l2, l3, .ref l4] [.ref s0] H = rn 47 59 [l0, l1, l2, l3, .ref l4] [.ref l4, .ref s0] H := rn_nx rfl
theorem x47_59 (l0 l1 l2 l3 l4 : Value) (s0 : Nat) (s1 : Nat) (H : HS) : rn 47 59 [l0, l1, l2, l3, l4] [.ref s0, .ref s1] H = gk 47 62 [l0, l1, l2, l3, l4] [.ref s1] H (gfd H 2 2 s0) := (rn_ev ..).trans (ev_gk rfl)
theorem x47_62 (l1 l2 l3 l4 : Value) (l0 : Nat) (s0 : Int32) (s1 : Nat) (H : HS) : rn 47 62 [.ref l0, l1, l2, l3, l4] [.int s0, .ref s1] H = rn 47 63 [.ref l0, l1, l2, l3, l4] [.ref l0, .int s0, .ref s1] H := rn_nx rfl
theorem x47_63 (l0 l1 l2 l3 l4 : Value) (s0 : Nat) (s1 : Int32) (s2 : Nat) (H : HS) : rn 47 63 [l0, l1, l2, l3, l4] [.ref s0, .int s1, .ref s2] H = gk 47 66 [l0, l1, l2, l3, l4] [.int s1, .ref s2] H (gfd H 1 7 s0) := (rn_ev ..).trans (ev_gk rfl)
theorem x47_66 (l0 l1 l2 l3 l4 : Value) (s0 : Int32) (s1 : Int32) (s2 : Nat) (H : HS) (h : recv H s2 2 = true) : rn 47 66 [l0, l1, l2, l3, l4] [.int s0, .int s1, .ref s2] H = bnd true 47 66 [l0, l1, l2, l3, l4] [] (rcal 85 [.ref s2, .int s1, .int s0] H) := rn_cal (vcal h rfl)
theorem x47_69 (l0 l1 l2 l4 : Value) (l3 : Int32) (H : HS) : rn 47 69 [l0, l1, l2, .int l3, l4] [] H = rn 47 72 [l0, l1, (kl l2), .int (l3 + 1), l4] [] H := rn_nx rfl
theorem x47_72 (l0 l1 l2 l3 l4 : Value) (H : HS) : rn 47 72 [l0, l1, l2, l3, l4] [] H = rn 47 10 [l0, l1, l2, l3, l4] [] H := rn_nx rfl
theorem x47_75 (l0 l1 l2 l3 l4 : Value) (H : HS) : rn 47 75 [l0, l1, l2, l3, l4] [] H = some (.inl none, H) := rn_end rfl
theorem c47 (a0 : Nat) (H : HS) : rcal 47 [.ref a0] H = rn 47 0 [.ref a0, un, un, un, un] [] H := rfl
theorem x48_0 (l1 l2 : Value) (l0 : Nat) (H : HS) : rn 48 0 [.ref l0, l1, l2] [] H = rn 48 1 [.ref l0, l1, l2] [.ref l0] H := rn_nx rfl
theorem x48_1 (l0 l1 l2 : Value) (s0 : Nat) (H : HS) : rn 48 1 [l0, l1, l2] [.ref s0] H = rn 48 2 [l0, l1, l2] [.null, .ref s0] H := rn_nx rfl
theorem x48_2 (l0 l1 l2 : Value) (s1 : Nat) (H : HS) (h : recv H s1 1 = true) : rn 48 2 [l0, l1, l2] [.null, .ref s1] H = bnd true 48 2 [l0, l1, l2] [] (rcal 50 [.ref s1, .null] H) := rn_cal (vcal h rfl)
theorem x48_5 (l0 l1 l2 : Value) (H : HS) : rn 48 5 [l0, l1, l2] [.null] H = rn 48 6 [(kl l0), .null, l2] [] H := rn_nx rfl
theorem x48_6 (l0 l1 l2 : Value) (H : HS) : rn 48 6 [l0, l1, l2] [] H = rn 48 7 [l0, l1, l2] [.int 0] H := rn_nx rfl
theorem x48_7 (l0 l1 l2 : Value) (s0 : Int32) (H : HS) : rn 48 7 [l0, l1, l2] [.int s0] H = rn 48 8 [l0, (kl l1), .int s0] [] H := rn_nx rfl
theorem x48_8 (l0 l1 : Value) (l2 : Int32) (H : HS) : rn 48 8 [l0, l1, .int l2] [] H = rn 48 9 [l0, l1, .int l2] [.int l2] H := rn_nx rfl
theorem x48_9 (l0 l1 l2 : Value) (s0 : Int32) (H : HS) : rn 48 9 [l0, l1, l2] [.int s0] H = rn 48 11 [l0, l1, l2] [.int 6, .int s0] H := rn_nx rfl
theorem x48_11 (l0 l1 l2 : Value) (s0 : Int32) (s1 : Int32) (H : HS) : rn 48 11 [l0, l1, l2] [.int s0, .int s1] H = if s1 < s0 then rn 48 14 [l0, l1, l2] [] H else rn 48 63 [l0, l1, l2] [] H := (rn_ev ..).trans (ev_bin rfl)
theorem x48_14 (l0 l2 : Value) (l1 : Nat) (H : HS) : rn 48 14 [l0, .ref l1, l2] [] H = rn 48 15 [l0, .ref l1, l2] [.ref l1] H := rn_nx rfl
theorem x48_14n (l0 l2 : Value) (H : HS) : rn 48 14 [l0, .null, l2] [] H = rn 48 15 [l0, .null, l2] [.null] H := rn_nx rfl
theorem x48_15 (l0 l1 l2 : Value) (H : HS) : rn 48 15 [l0, l1, l2] [.null] H = rn 48 63 [l0, l1, l2] [] H := rn_nx rfl
theorem x48_63 (l0 l1 l2 : Value) (H : HS) : rn 48 63 [l0, l1, l2] [] H = some (.inl none, H) := rn_end rfl
theorem x48_15a (l0 l1 l2 : Value) (s0 : Nat) (H : HS) : rn 48 15 [l0, l1, l2] [.ref s0] H = rn 48 18 [l0, l1, l2] [] H := rn_nx rfl
theorem x48_18 (l0 l2 : Value) (l1 : Nat) (H : HS) : rn 48 18 [l0, .ref l1, l2] [] H = rn 48 19 [l0, .ref l1, l2] [.ref l1] H := rn_nx rfl
theorem x48_19 (l0 l1 l2 : Value) (s0 : Nat) (H : HS) : rn 48 19 [l0, l1, l2] [.ref s0] H = gk 48 22 [l0, l1, l2] [] H (gfd H 2 0 s0) := (rn_ev ..).trans (ev_gk rfl)
theorem x48_22 (l0 l1 l2 : Value) (s0 : Nat) (H : HS) : rn 48 22 [l0, l1, l2] [.ref s0] H = rn 48 25 [l0, l1, l2] [.ref 3, .ref s0] H := rn_nx rfl
theorem x48_25 (l0 l1 l2 : Value) (s0 : Nat) (s1 : Nat) (H : HS) : rn 48 25 [l0, l1, l2] [.ref s0, .ref s1] H = qk 48 28 51 [l0, l1, l2] [] H (req H (.ref s1) (.ref s0)) := (rn_ev ..).trans (ev_qn rfl)
theorem x48_28 (l0 l2 : Value) (l1 : Nat) (H : HS) : rn 48 28 [l0, .ref l1, l2] [] H = rn 48 29 [l0, .ref l1, l2] [.ref l1] H := rn_nx rfl
theorem x48_29 (l0 l1 l2 : Value) (s0 : Nat) (H : HS) : rn 48 29 [l0, l1, l2] [.ref s0] H = gk 48 32 [l0, l1, l2] [] H (gfd H 2 11 s0) := (rn_ev ..).trans (ev_gk rfl)
theorem x48_32 (l1 l2 : Value) (l0 : Nat) (s0 : Int32) (H : HS) : rn 48 32 [.ref l0, l1, l2] [.int s0] H = rn 48 33 [.ref l0, l1, l2] [.ref l0, .int s0] H := rn_nx rfl
theorem x48_33 (l0 l1 l2 : Value) (s0 : Nat) (s1 : Int32) (H : HS) : rn 48 33 [l0, l1, l2] [.ref s0, .int s1] H = gk 48 36 [l0, l1, l2] [.int s1] H (gfd H 1 7 s0) := (rn_ev ..).trans (ev_gk rfl)
theorem x48_36 (l0 l1 l2 : Value) (s0 : Int32) (s1 : Int32) (H : HS) : rn 48 36 [l0, l1, l2] [.int s0, .int s1] H = if s1 = s0 then rn 48 51 [l0, l1, l2] [] H else rn 48 39 [l0, l1, l2] [] H := (rn_ev ..).trans (ev_bif rfl)
theorem x48_39 (l0 l2 : Value) (l1 : Nat) (H : HS) : rn 48 39 [l0, .ref l1, l2] [] H = rn 48 40 [l0, .ref l1, l2] [.ref l1] H := rn_nx rfl
theorem x48_40 (l0 l1 l2 : Value) (s0 : Nat) (H : HS) : rn 48 40 [l0, l1, l2] [.ref s0] H = gk 48 43 [l0, l1, l2] [] H (gfd H 2 9 s0) := (rn_ev ..).trans (ev_gk rfl)
theorem x48_43 (l0 l1 l2 : Value) (s0 : Int32) (H : HS) : rn 48 43 [l0, l1, l2] [.int s0] H = if s0 = 0 then rn 48 46 [l0, l1, l2] [] H else rn 48 51 [l0, l1, l2] [] H := (rn_ev ..).trans (ev_bin rfl)
theorem x48_46 (l1 l2 : Value) (l0 : Nat) (H : HS) : rn 48 46 [.ref l0, l1, l2] [] H = rn 48 47 [.ref l0, l1, l2] [.ref l0] H := rn_nx rfl
theorem x48_47 (l0 l2 : Value) (l1 : Nat) (s0 : Nat) (H : HS) : rn 48 47 [l0, .ref l1, l2] [.ref s0] H = rn 48 48 [l0, .ref l1, l2] [.ref l1, .ref s0] H := rn_nx rfl
theorem x48_48 (l0 l1 l2 : Value) (s0 : Nat) (s1 : Nat) (H : HS) (h : recv H s1 1 = true) : rn 48 48 [l0, l1, l2] [.ref s0, .ref s1] H = bnd true 48 48 [l0, l1, l2] [] (rcal 49 [.ref s1, .ref s0] H) := rn_cal (vcal h rfl)
theorem x48_51 (l1 l2 : Value) (l0 : Nat) (H : HS) : rn 48 51 [.ref l0, l1, l2] [] H = rn 48 52 [.ref l0, l1, l2] [.ref l0] H := rn_nx rfl
theorem x48_52 (l0 l2 : Value) (l1 : Nat) (s0 : Nat) (H : HS) : rn 48 52 [l0, .ref l1, l2] [.ref s0] H = rn 48 53 [l0, .ref l1, l2] [.ref l1, .ref s0] H := rn_nx rfl
theorem x48_53 (l0 l1 l2 : Value) (s0 : Nat) (s1 : Nat) (H : HS) (h : recv H s1 1 = true) : rn 48 53 [l0, l1, l2] [.ref s0, .ref s1] H = bnd true 48 53 [l0, l1, l2] [] (rcal 50 [.ref s1, .ref s0] H) := rn_cal (vcal h rfl)
theorem x48_56 (l0 l1 l2 : Value) (H : HS) : rn 48 56 [l0, l1, l2] [.null] H = rn 48 57 [(kl l0), .null, l2] [] H := rn_nx rfl
theorem x48_57 (l0 l1 : Value) (l2 : Int32) (H : HS) : rn 48 57 [l0, l1, .int l2] [] H = rn 48 60 [l0, (kl l1), .int (l2 + 1)] [] H := rn_nx rfl
theorem x48_60 (l0 l1 l2 : Value) (H : HS) : rn 48 60 [l0, l1, l2] [] H = rn 48 8 [l0, l1, l2] [] H := rn_nx rfl
theorem x48_56a (l0 l1 l2 : Value) (s0 : Nat) (H : HS) : rn 48 56 [l0, l1, l2] [.ref s0] H = rn 48 57 [(kl l0), .ref s0, l2] [] H := rn_nx rfl
theorem x48_5a (l0 l1 l2 : Value) (s0 : Nat) (H : HS) : rn 48 5 [l0, l1, l2] [.ref s0] H = rn 48 6 [(kl l0), .ref s0, l2] [] H := rn_nx rfl
theorem c48 (a0 : Nat) (H : HS) : rcal 48 [.ref a0] H = rn 48 0 [.ref a0, un, un] [] H := rfl
theorem x49_0 (l0 l2 l3 l4 : Value) (l1 : Nat) (H : HS) : rn 49 0 [l0, .ref l1, l2, l3, l4] [] H = rn 49 1 [l0, .ref l1, l2, l3, l4] [.ref l1] H := rn_nx rfl
theorem x49_1 (l0 l1 l2 l3 l4 : Value) (s0 : Nat) (H : HS) : rn 49 1 [l0, l1, l2, l3, l4] [.ref s0] H = gk 49 4 [l0, l1, l2, l3, l4] [] H (gfd H 2 6 s0) := (rn_ev ..).trans (ev_gk rfl)
theorem x49_4 (l0 l2 l3 l4 : Value) (l1 : Nat) (s0 : Int32) (H : HS) : rn 49 4 [l0, .ref l1, l2, l3, l4] [.int s0] H = rn 49 5 [l0, .ref l1, l2, l3, l4] [.ref l1, .int s0] H := rn_nx rfl
theorem x49_5 (l0 l1 l2 l3 l4 : Value) (s0 : Nat) (s1 : Int32) (H : HS) (h : recv H s0 2 = true) : rn 49 5 [l0, l1, l2, l3, l4] [.ref s0, .int s1] H = bnd true 49 5 [l0, l1, l2, l3, l4] [.int s1] (rcal 84 [.ref s0] H) := rn_cal (vcal h rfl)
theorem x49_8 (l0 l1 l2 l3 l4 : Value) (s0 : Int32) (s1 : Int32) (H : HS) : rn 49 8 [l0, l1, l2, l3, l4] [.int s0, .int s1] H = rn 49 9 [l0, l1, l2, l3, l4] [.int (s1 + s0)] H := rn_nx rfl
theorem x49_9 (l0 l1 l2 l3 l4 : Value) (s0 : Int32) (H : HS) : rn 49 9 [l0, l1, l2, l3, l4] [.int s0] H = rn 49 10 [l0, (kl l1), .int s0, l3, l4] [] H := rn_nx rfl
theorem x49_10 (l0 l2 l3 l4 : Value) (l1 : Nat) (H : HS) : rn 49 10 [l0, .ref l1, l2, l3, l4] [] H = rn 49 11 [l0, .ref l1, l2, l3, l4] [.ref l1] H := rn_nx rfl
theorem x49_11 (l0 l1 l2 l3 l4 : Value) (s0 : Nat) (H : HS) : rn 49 11 [l0, l1, l2, l3, l4] [.ref s0] H = gk 49 14 [l0, l1, l2, l3, l4] [] H (gfd H 2 6 s0) := (rn_ev ..).trans (ev_gk rfl)
theorem x49_14 (l0 l1 l3 l4 : Value) (l2 : Int32) (s0 : Int32) (H : HS) : rn 49 14 [l0, l1, .int l2, l3, l4] [.int s0] H = rn 49 15 [l0, l1, .int l2, l3, l4] [.int l2, .int s0] H := rn_nx rfl
theorem x49_15 (l0 l1 l2 l3 l4 : Value) (s0 : Int32) (s1 : Int32) (H : HS) : rn 49 15 [l0, l1, l2, l3, l4] [.int s0, .int s1] H = rn 49 18 [l0, l1, l2, l3, l4] [.int (if s0 < s1 then s0 else s1)] H := rn_nx rfl
theorem x49_18 (l0 l1 l2 l3 l4 : Value) (s0 : Int32) (H : HS) : rn 49 18 [l0, l1, l2, l3, l4] [.int s0] H = rn 49 19 [l0, l1, (kl l2), .int s0, l4] [] H := rn_nx rfl
theorem x49_19 (l1 l2 l3 l4 : Value) (l0 : Nat) (H : HS) : rn 49 19 [.ref l0, l1, l2, l3, l4] [] H = rn 49 20 [.ref l0, l1, l2, l3, l4] [.ref l0] H := rn_nx rfl
theorem x49_20 (l0 l1 l2 l4 : Value) (l3 : Int32) (s0 : Nat) (H : HS) : rn 49 20 [l0, l1, l2, .int l3, l4] [.ref s0] H = rn 49 21 [l0, l1, l2, .int l3, l4] [.int l3, .ref s0] H := rn_nx rfl
theorem x49_21 (l0 l1 l2 l3 l4 : Value) (s0 : Int32) (s1 : Nat) (H : HS) (h : recv H s1 1 = true) : rn 49 21 [l0, l1, l2, l3, l4] [.int s0, .ref s1] H = bnd true 49 21 [l0, l1, l2, l3, l4] [] (rcal 56 [.ref s1, .int s0] H) := rn_cal (vcal h rfl)
theorem x49_24 (l0 l1 l2 l3 l4 : Value) (s0 : Int32) (H : HS) : rn 49 24 [l0, l1, l2, l3, l4] [.int s0] H = if s0 = 0 then rn 49 27 [l0, l1, l2, l3, l4] [] H else rn 49 28 [l0, l1, l2, l3, l4] [] H := (rn_ev ..).trans (ev_bin rfl)
theorem x49_27 (l0 l1 l2 l3 l4 : Value) (H : HS) : rn 49 27 [l0, l1, l2, l3, l4] [] H = some (.inl none, H) := rn_end rfl
theorem x49_28 (l0 l1 l3 l4 : Value) (l2 : Int32) (H : HS) : rn 49 28 [l0, l1, .int l2, l3, l4] [] H = rn 49 29 [l0, l1, .int l2, l3, l4] [.int l2] H := rn_nx rfl
theorem x49_29 (l0 l2 l3 l4 : Value) (l1 : Nat) (s0 : Int32) (H : HS) : rn 49 29 [l0, .ref l1, l2, l3, l4] [.int s0] H = rn 49 30 [l0, .ref l1, l2, l3, l4] [.ref l1, .int s0] H := rn_nx rfl
theorem x49_30 (l0 l1 l2 l3 l4 : Value) (s0 : Nat) (s1 : Int32) (H : HS) : rn 49 30 [l0, l1, l2, l3, l4] [.ref s0, .int s1] H = gk 49 33 [l0, l1, l2, l3, l4] [.int s1] H (gfd H 2 3 s0) := (rn_ev ..).trans (ev_gk rfl)
theorem x49_33 (l0 l1 l2 l3 l4 : Value) (s0 : Int32) (s1 : Int32) (H : HS) : rn 49 33 [l0, l1, l2, l3, l4] [.int s0, .int s1] H = if s1 = s0 then rn 49 44 [l0, l1, l2, l3, l4] [] H else rn 49 36 [l0, l1, l2, l3, l4] [] H := (rn_ev ..).trans (ev_bif rfl)
theorem x49_36 (l1 l2 l3 l4 : Value) (l0 : Nat) (H : HS) : rn 49 36 [.ref l0, l1, l2, l3, l4] [] H = rn 49 37 [.ref l0, l1, l2, l3, l4] [.ref l0] H := rn_nx rfl
theorem x49_37 (l0 l1 l3 l4 : Value) (l2 : Int32) (s0 : Nat) (H : HS) : rn 49 37 [l0, l1, .int l2, l3, l4] [.ref s0] H = rn 49 38 [l0, l1, .int l2, l3, l4] [.int l2, .ref s0] H := rn_nx rfl
theorem x49_38 (l0 l1 l2 l3 l4 : Value) (s0 : Int32) (s1 : Nat) (H : HS) (h : recv H s1 1 = true) : rn 49 38 [l0, l1, l2, l3, l4] [.int s0, .ref s1] H = bnd true 49 38 [l0, l1, l2, l3, l4] [] (rcal 60 [.ref s1, .int s0] H) := rn_cal (vcal h rfl)
theorem x49_41 (l0 l1 l2 l3 l4 : Value) (s0 : Int32) (H : HS) : rn 49 41 [l0, l1, l2, l3, l4] [.int s0] H = if 0 < s0 then rn 49 44 [l0, l1, l2, l3, l4] [] H else rn 49 48 [l0, l1, l2, l3, l4] [] H := (rn_ev ..).trans (ev_bin rfl)
theorem x49_44 (l0 l1 l2 l3 l4 : Value) (H : HS) : rn 49 44 [l0, l1, l2, l3, l4] [] H = rn 49 45 [l0, l1, l2, l3, l4] [.int 1] H := rn_nx rfl
theorem x49_45 (l0 l1 l2 l3 l4 : Value) (s0 : Int32) (H : HS) : rn 49 45 [l0, l1, l2, l3, l4] [.int s0] H = rn 49 49 [l0, l1, l2, l3, l4] [.int s0] H := rn_nx rfl
theorem x49_49 (l0 l1 l2 l3 l4 : Value) (s0 : Int32) (H : HS) : rn 49 49 [l0, l1, l2, l3, l4] [.int s0] H = rn 49 51 [l0, l1, l2, (kl l3), .int s0] [] H := rn_nx rfl
theorem x49_51 (l0 l1 l2 l3 : Value) (l4 : Int32) (H : HS) : rn 49 51 [l0, l1, l2, l3, .int l4] [] H = rn 49 53 [l0, l1, l2, l3, .int l4] [.int l4] H := rn_nx rfl
theorem x49_53 (l0 l1 l2 l3 l4 : Value) (s0 : Int32) (H : HS) : rn 49 53 [l0, l1, l2, l3, l4] [.int s0] H = if s0 = 0 then rn 49 79 [l0, l1, l2, l3, l4] [] H else rn 49 56 [l0, l1, l2, l3, l4] [] H := (rn_ev ..).trans (ev_bif rfl)
theorem x49_56 (l1 l2 l3 l4 : Value) (l0 : Nat) (H : HS) : rn 49 56 [.ref l0, l1, l2, l3, l4] [] H = rn 49 57 [.ref l0, l1, l2, l3, l4] [.ref l0] H := rn_nx rfl
theorem x49_57 (l0 l1 l2 l4 : Value) (l3 : Int32) (s0 : Nat) (H : HS) : rn 49 57 [l0, l1, l2, .int l3, l4] [.ref s0] H = rn 49 58 [l0, l1, l2, .int l3, l4] [.int l3, .ref s0] H := rn_nx rfl
theorem x49_58 (l0 l1 l2 l3 l4 : Value) (s0 : Int32) (s1 : Nat) (H : HS) (h : recv H s1 1 = true) : rn 49 58 [l0, l1, l2, l3, l4] [.int s0, .ref s1] H = bnd true 49 58 [l0, l1, l2, l3, l4] [] (rcal 59 [.ref s1, .int s0] H) := rn_cal (vcal h rfl)
theorem x49_61 (l0 l1 l2 l3 l4 : Value) (H : HS) : rn 49 61 [l0, l1, l2, l3, l4] [.null] H = rn 49 64 [l0, l1, l2, l3, l4] [] H := rn_nx rfl
theorem x49_64 (l0 l2 l3 l4 : Value) (l1 : Nat) (H : HS) : rn 49 64 [l0, .ref l1, l2, l3, l4] [] H = rn 49 65 [l0, .ref l1, l2, l3, l4] [.ref l1] H := rn_nx rfl
theorem x49_65 (l0 l1 l2 l4 : Value) (l3 : Int32) (s0 : Nat) (H : HS) : rn 49 65 [l0, l1, l2, .int l3, l4] [.ref s0] H = rn 49 66 [l0, l1, l2, .int l3, l4] [.int l3, .ref s0] H := rn_nx rfl
theorem x49_66 (l0 l1 l3 l4 : Value) (l2 : Int32) (s0 : Int32) (s1 : Nat) (H : HS) : rn 49 66 [l0, l1, .int l2, l3, l4] [.int s0, .ref s1] H = rn 49 67 [l0, l1, .int l2, l3, l4] [.int l2, .int s0, .ref s1] H := rn_nx rfl
theorem x49_67 (l1 l2 l3 l4 : Value) (l0 : Nat) (s0 : Int32) (s1 : Int32) (s2 : Nat) (H : HS) : rn 49 67 [.ref l0, l1, l2, l3, l4] [.int s0, .int s1, .ref s2] H = rn 49 68 [.ref l0, l1, l2, l3, l4] [.ref l0, .int s0, .int s1, .ref s2] H := rn_nx rfl
theorem x49_68 (l0 l1 l2 l3 l4 : Value) (s0 : Nat) (s1 : Int32) (s2 : Int32) (s3 : Nat) (H : HS) : rn 49 68 [l0, l1, l2, l3, l4] [.ref s0, .int s1, .int s2, .ref s3] H = gk 49 71 [l0, l1, l2, l3, l4] [.int s1, .int s2, .ref s3] H (gfd H 1 2 s0) := (rn_ev ..).trans (ev_gk rfl)
theorem x49_71 (l0 l1 l2 l4 : Value) (l3 : Int32) (s0 : Nat) (s1 : Int32) (s2 : Int32) (s3 : Nat) (H : HS) : rn 49 71 [l0, l1, l2, .int l3, l4] [.ref s0, .int s1, .int s2, .ref s3] H = rn 49 72 [l0, l1, l2, .int l3, l4] [.int l3, .ref s0, .int s1, .int s2, .ref s3] H := rn_nx rfl
theorem x49_72 (l0 l1 l2 l3 l4 : Value) (s0 : Int32) (s1 : Nat) (s2 : Int32) (s3 : Int32) (s4 : Nat) (H : HS) : rn 49 72 [l0, l1, l2, l3, l4] [.int s0, .ref s1, .int s2, .int s3, .ref s4] H = gk 49 73 [l0, l1, l2, l3, l4] [.int s2, .int s3, .ref s4] H (ald H 100 s1 s0) := (rn_ev ..).trans (ev_gk rfl)
theorem x49_73 (l0 l1 l2 l3 l4 : Value) (s0 : Int32) (s1 : Int32) (s2 : Int32) (s3 : Nat) (H : HS) (h : recv H s3 2 = true) : rn 49 73 [l0, l1, l2, l3, l4] [.int s0, .int s1, .int s2, .ref s3] H = bnd true 49 73 [l0, l1, l2, l3, l4] [] (rcal 86 [.ref s3, .int s2, .int s1, .int s0] H) := rn_cal (vcal h rfl)
theorem x49_76 (l0 l1 l2 l3 l4 : Value) (H : HS) : rn 49 76 [l0, l1, l2, l3, l4] [] H = rn 49 89 [l0, l1, l2, l3, l4] [] H := rn_nx rfl
theorem x49_89 (l0 l1 l2 l3 l4 : Value) (H : HS) : rn 49 89 [l0, l1, l2, l3, l4] [] H = some (.inl none, H) := rn_end rfl
theorem x49_61a (l0 l1 l2 l3 l4 : Value) (s0 : Nat) (H : HS) : rn 49 61 [l0, l1, l2, l3, l4] [.ref s0] H = rn 49 79 [l0, l1, l2, l3, l4] [] H := rn_nx rfl
theorem x49_79 (l0 l2 l3 l4 : Value) (l1 : Nat) (H : HS) : rn 49 79 [l0, .ref l1, l2, l3, l4] [] H = rn 49 80 [l0, .ref l1, l2, l3, l4] [.ref l1] H := rn_nx rfl
theorem x49_80 (l0 l1 l2 l3 l4 : Value) (s0 : Nat) (H : HS) : rn 49 80 [l0, l1, l2, l3, l4] [.ref s0] H = rn 49 81 [l0, l1, l2, l3, l4] [.ref s0, .ref s0] H := rn_nx rfl
theorem x49_81 (l0 l1 l2 l3 l4 : Value) (s0 : Nat) (s1 : Nat) (H : HS) : rn 49 81 [l0, l1, l2, l3, l4] [.ref s0, .ref s1] H = gk 49 84 [l0, l1, l2, l3, l4] [.ref s1] H (gfd H 2 10 s0) := (rn_ev ..).trans (ev_gk rfl)
theorem x49_84 (l0 l1 l2 l3 l4 : Value) (s0 : Int32) (s1 : Nat) (H : HS) : rn 49 84 [l0, l1, l2, l3, l4] [.int s0, .ref s1] H = rn 49 85 [l0, l1, l2, l3, l4] [.int 1, .int s0, .ref s1] H := rn_nx rfl
theorem x49_85 (l0 l1 l2 l3 l4 : Value) (s0 : Int32) (s1 : Int32) (s2 : Nat) (H : HS) : rn 49 85 [l0, l1, l2, l3, l4] [.int s0, .int s1, .ref s2] H = rn 49 86 [l0, l1, l2, l3, l4] [.int (s1 + s0), .ref s2] H := rn_nx rfl
theorem x49_86 (l0 l1 l2 l3 l4 : Value) (s0 : Int32) (s1 : Nat) (H : HS) : rn 49 86 [l0, l1, l2, l3, l4] [.int s0, .ref s1] H = pk 49 89 [l0, l1, l2, l3, l4] [] (pfd H true 2 10 s1 (.int s0)) := (rn_ev ..).trans (ev_pk rfl)
theorem x49_48 (l0 l1 l2 l3 l4 : Value) (H : HS) : rn 49 48 [l0, l1, l2, l3, l4] [] H = rn 49 49 [l0, l1, l2, l3, l4] [.int 0] H := rn_nx rfl
theorem c49 (a0 : Nat) (a1 : Nat) (H : HS) : rcal 49 [.ref a0, .ref a1] H = rn 49 0 [.ref a0, .ref a1, un, un, un] [] H := rfl
theorem x50_0 (l0 l1 l2 l3 l4 l5 l6 l7 : Value) (H : HS) : rn 50 0 [l0, l1, l2, l3, l4, l5, l6, l7] [] H = rn 50 1 [l0, l1, l2, l3, l4, l5, l6, l7] [.null] H := rn_nx rfl
theorem x50_1 (l0 l1 l2 l3 l4 l5 l6 l7 : Value) (H : HS) : rn 50 1 [l0, l1, l2, l3, l4, l5, l6, l7] [.null] H = rn 50 2 [l0, (kl l1), .null, l3, l4, l5, l6, l7] [] H := rn_nx rfl
theorem x50_2 (l1 l2 l3 l4 l5 l6 l7 : Value) (l0 : Nat) (H : HS) : rn 50 2 [.ref l0, l1, l2, l3, l4, l5, l6, l7] [] H = rn 50 3 [.ref l0, l1, l2, l3, l4, l5, l6, l7] [.ref l0] H := rn_nx rfl
theorem x50_3 (l0 l1 l2 l3 l4 l5 l6 l7 : Value) (s0 : Nat) (H : HS) : rn 50 3 [l0, l1, l2, l3, l4, l5, l6, l7] [.ref s0] H = gk 50 6 [l0, l1, l2, l3, l4, l5, l6, l7] [] H (gfd H 1 4 s0) := (rn_ev ..).trans (ev_gk rfl)
theorem x50_6 (l0 l1 l2 l3 l4 l5 l6 l7 : Value) (s0 : Nat) (H : HS) : rn 50 6 [l0, l1, l2, l3, l4, l5, l6, l7] [.ref s0] H = rn 50 7 [l0, l1, (kl l2), .ref s0, l4, l5, l6, l7] [] H := rn_nx rfl
theorem x50_7 (l0 l1 l2 l4 l5 l6 l7 : Value) (l3 : Nat) (H : HS) : rn 50 7 [l0, l1, l2, .ref l3, l4, l5, l6, l7] [] H = rn 50 8 [l0, l1, l2, .ref l3, l4, l5, l6, l7] [.ref l3] H := rn_nx rfl
theorem x50_8 (l0 l1 l2 l3 l4 l5 l6 l7 : Value) (s0 : Nat) (H : HS) : rn 50 8 [l0, l1, l2, l3, l4, l5, l6, l7] [.ref s0] H = gk 50 9 [l0, l1, l2, l3, l4, l5, l6, l7] [] H (alen H s0) := (rn_ev ..).trans (ev_gk rfl)
theorem x50_9 (l0 l1 l2 l3 l4 l5 l6 l7 : Value) (s0 : Int32) (H : HS) : rn 50 9 [l0, l1, l2, l3, l4, l5, l6, l7] [.int s0] H = rn 50 11 [l0, l1, l2, (kl l3), .int s0, l5, l6, l7] [] H := rn_nx rfl
theorem x50_11 (l0 l1 l2 l3 l4 l5 l6 l7 : Value) (H : HS) : rn 50 11 [l0, l1, l2, l3, l4, l5, l6, l7] [] H = rn 50 12 [l0, l1, l2, l3, l4, l5, l6, l7] [.int 0] H := rn_nx rfl
theorem x50_12 (l0 l1 l2 l3 l4 l5 l6 l7 : Value) (s0 : Int32) (H : HS) : rn 50 12 [l0, l1, l2, l3, l4, l5, l6, l7] [.int s0] H = rn 50 14 [l0, l1, l2, l3, (kl l4), .int s0, l6, l7] [] H := rn_nx rfl
theorem x50_14 (l0 l1 l2 l3 l4 l6 l7 : Value) (l5 : Int32) (H : HS) : rn 50 14 [l0, l1, l2, l3, l4, .int l5, l6, l7] [] H = rn 50 16 [l0, l1, l2, l3, l4, .int l5, l6, l7] [.int l5] H := rn_nx rfl
theorem x50_16 (l0 l1 l2 l3 l5 l6 l7 : Value) (l4 : Int32) (s0 : Int32) (H : HS) : rn 50 16 [l0, l1, l2, l3, .int l4, l5, l6, l7] [.int s0] H = rn 50 18 [l0, l1, l2, l3, .int l4, l5, l6, l7] [.int l4, .int s0] H := rn_nx rfl
theorem x50_18 (l0 l1 l2 l3 l4 l5 l6 l7 : Value) (s0 : Int32) (s1 : Int32) (H : HS) : rn 50 18 [l0, l1, l2, l3, l4, l5, l6, l7] [.int s0, .int s1] H = if s1 < s0 then rn 50 21 [l0, l1, l2, l3, l4, l5, l6, l7] [] H else rn 50 82 [l0, l1, l2, l3, l4, l5, l6, l7] [] H := (rn_ev ..).trans (ev_bin rfl)
theorem x50_21 (l0 l1 l2 l4 l5 l6 l7 : Value) (l3 : Nat) (H : HS) : rn 50 21 [l0, l1, l2, .ref l3, l4, l5, l6, l7] [] H = rn 50 22 [l0, l1, l2, .ref l3, l4, l5, l6, l7] [.ref l3] H := rn_nx rfl
theorem x50_22 (l0 l1 l2 l3 l4 l6 l7 : Value) (l5 : Int32) (s0 : Nat) (H : HS) : rn 50 22 [l0, l1, l2, l3, l4, .int l5, l6, l7] [.ref s0] H = rn 50 24 [l0, l1, l2, l3, l4, .int l5, l6, l7] [.int l5, .ref s0] H := rn_nx rfl
theorem x50_24 (l0 l1 l2 l3 l4 l5 l6 l7 : Value) (s0 : Int32) (s1 : Nat) (H : HS) : rn 50 24 [l0, l1, l2, l3, l4, l5, l6, l7] [.int s0, .ref s1] H = gk 50 25 [l0, l1, l2, l3, l4, l5, l6, l7] [] H (aald H s1 s0) := (rn_ev ..).trans (ev_gk rfl)
theorem x50_25 (l0 l1 l2 l3 l4 l5 l6 l7 : Value) (s0 : Nat) (H : HS) : rn 50 25 [l0, l1, l2, l3, l4, l5, l6, l7] [.ref s0] H = rn 50 27 [l0, l1, l2, l3, l4, (kl l5), .ref s0, l7] [] H := rn_nx rfl
theorem x50_27 (l0 l2 l3 l4 l5 l6 l7 : Value) (l1 : Nat) (H : HS) : rn 50 27 [l0, .ref l1, l2, l3, l4, l5, l6, l7] [] H = rn 50 28 [l0, .ref l1, l2, l3, l4, l5, l6, l7] [.ref l1] H := rn_nx rfl
theorem x50_27n (l0 l2 l3 l4 l5 l6 l7 : Value) (H : HS) : rn 50 27 [l0, .null, l2, l3, l4, l5, l6, l7] [] H = rn 50 28 [l0, .null, l2, l3, l4, l5, l6, l7] [.null] H := rn_nx rfl
theorem x50_28 (l0 l1 l2 l3 l4 l5 l6 l7 : Value) (H : HS) : rn 50 28 [l0, l1, l2, l3, l4, l5, l6, l7] [.null] H = rn 50 40 [l0, l1, l2, l3, l4, l5, l6, l7] [] H := rn_nx rfl
theorem x50_40 (l0 l1 l2 l3 l4 l5 l6 l7 : Value) (H : HS) : rn 50 40 [l0, l1, l2, l3, l4, l5, l6, l7] [] H = rn 50 41 [l0, l1, l2, l3, l4, l5, l6, l7] [.int 1] H := rn_nx rfl
theorem x50_41 (l0 l1 l2 l3 l4 l5 l6 l7 : Value) (s0 : Int32) (H : HS) : rn 50 41 [l0, l1, l2, l3, l4, l5, l6, l7] [.int s0] H = rn 50 45 [l0, l1, l2, l3, l4, l5, l6, l7] [.int s0] H := rn_nx rfl
theorem x50_45 (l0 l1 l2 l3 l4 l5 l6 l7 : Value) (s0 : Int32) (H : HS) : rn 50 45 [l0, l1, l2, l3, l4, l5, l6, l7] [.int s0] H = rn 50 47 [l0, l1, l2, l3, l4, l5, (kl l6), .int s0] [] H := rn_nx rfl
theorem x50_47 (l0 l1 l2 l3 l4 l5 l7 : Value) (l6 : Nat) (H : HS) : rn 50 47 [l0, l1, l2, l3, l4, l5, .ref l6, l7] [] H = rn 50 49 [l0, l1, l2, l3, l4, l5, .ref l6, l7] [.ref l6] H := rn_nx rfl
theorem x50_49 (l0 l1 l2 l3 l4 l5 l6 l7 : Value) (s0 : Nat) (H : HS) (h : recv H s0 2 = true) : rn 50 49 [l0, l1, l2, l3, l4, l5, l6, l7] [.ref s0] H = bnd true 50 49 [l0, l1, l2, l3, l4, l5, l6, l7] [] (rcal 82 [.ref s0] H) := rn_cal (vcal h rfl)
theorem x50_52 (l0 l1 l2 l3 l4 l5 l6 l7 : Value) (s0 : Int32) (H : HS) : rn 50 52 [l0, l1, l2, l3, l4, l5, l6, l7] [.int s0] H = if s0 = 0 then rn 50 76 [l0, l1, l2, l3, l4, l5, l6, l7] [] H else rn 50 55 [l0, l1, l2, l3, l4, l5, l6, l7] [] H := (rn_ev ..).trans (ev_bif rfl)
theorem x50_55 (l0 l1 l2 l3 l4 l5 l6 : Value) (l7 : Int32) (H : HS) : rn 50 55 [l0, l1, l2, l3, l4, l5, l6, .int l7] [] H = rn 50 57 [l0, l1, l2, l3, l4, l5, l6, .int l7] [.int l7] H := rn_nx rfl
theorem x50_57 (l0 l1 l2 l3 l4 l5 l6 l7 : Value) (s0 : Int32) (H : HS) : rn 50 57 [l0, l1, l2, l3, l4, l5, l6, l7] [.int s0] H = if s0 = 0 then rn 50 76 [l0, l1, l2, l3, l4, l5, l6, l7] [] H else rn 50 60 [l0, l1, l2, l3, l4, l5, l6, l7] [] H := (rn_ev ..).trans (ev_bif rfl)
theorem x50_60 (l0 l1 l3 l4 l5 l6 l7 : Value) (l2 : Nat) (H : HS) : rn 50 60 [l0, l1, .ref l2, l3, l4, l5, l6, l7] [] H = rn 50 61 [l0, l1, .ref l2, l3, l4, l5, l6, l7] [.ref l2] H := rn_nx rfl
theorem x50_60n (l0 l1 l3 l4 l5 l6 l7 : Value) (H : HS) : rn 50 60 [l0, l1, .null, l3, l4, l5, l6, l7] [] H = rn 50 61 [l0, l1, .null, l3, l4, l5, l6, l7] [.null] H := rn_nx rfl
theorem x50_61 (l0 l1 l2 l3 l4 l5 l6 l7 : Value) (H : HS) : rn 50 61 [l0, l1, l2, l3, l4, l5, l6, l7] [.null] H = rn 50 73 [l0, l1, l2, l3, l4, l5, l6, l7] [] H := rn_nx rfl
theorem x50_73 (l0 l1 l2 l3 l4 l5 l7 : Value) (l6 : Nat) (H : HS) : rn 50 73 [l0, l1, l2, l3, l4, l5, .ref l6, l7] [] H = rn 50 75 [l0, l1, l2, l3, l4, l5, .ref l6, l7] [.ref l6] H := rn_nx rfl
theorem x50_75 (l0 l1 l2 l3 l4 l5 l6 l7 : Value) (s0 : Nat) (H : HS) : rn 50 75 [l0, l1, l2, l3, l4, l5, l6, l7] [.ref s0] H = rn 50 76 [l0, (kl l1), .ref s0, l3, l4, l5, l6, l7] [] H := rn_nx rfl
theorem x50_76 (l0 l1 l2 l3 l4 l6 l7 : Value) (l5 : Int32) (H : HS) : rn 50 76 [l0, l1, l2, l3, l4, .int l5, l6, l7] [] H = rn 50 79 [l0, l1, l2, l3, (kl l4), .int (l5 + 1), l6, l7] [] H := rn_nx rfl
theorem x50_79 (l0 l1 l2 l3 l4 l5 l6 l7 : Value) (H : HS) : rn 50 79 [l0, l1, l2, l3, l4, l5, l6, l7] [] H = rn 50 14 [l0, l1, l2, l3, l4, l5, l6, l7] [] H := rn_nx rfl
theorem x50_61a (l0 l1 l2 l3 l4 l5 l6 l7 : Value) (s0 : Nat) (H : HS) : rn 50 61 [l0, l1, l2, l3, l4, l5, l6, l7] [.ref s0] H = rn 50 64 [l0, l1, l2, l3, l4, l5, l6, l7] [] H := rn_nx rfl
theorem x50_64 (l0 l1 l2 l3 l4 l5 l7 : Value) (l6 : Nat) (H : HS) : rn 50 64 [l0, l1, l2, l3, l4, l5, .ref l6, l7] [] H = rn 50 66 [l0, l1, l2, l3, l4, l5, .ref l6, l7] [.ref l6] H := rn_nx rfl
theorem x50_66 (l0 l1 l3 l4 l5 l6 l7 : Value) (l2 : Nat) (s0 : Nat) (H : HS) : rn 50 66 [l0, l1, .ref l2, l3, l4, l5, l6, l7] [.ref s0] H = rn 50 67 [l0, l1, .ref l2, l3, l4, l5, l6, l7] [.ref l2, .ref s0] H := rn_nx rfl
theorem x50_67 (l0 l1 l2 l3 l4 l5 l6 l7 : Value) (s0 : Nat) (s1 : Nat) (H : HS) (h : recv H s1 2 = true) : rn 50 67 [l0, l1, l2, l3, l4, l5, l6, l7] [.ref s0, .ref s1] H = bnd true 50 67 [l0, l1, l2, l3, l4, l5, l6, l7] [] (rcal 87 [.ref s1, .ref s0] H) := rn_cal (vcal h rfl)
theorem x50_70 (l0 l1 l2 l3 l4 l5 l6 l7 : Value) (s0 : Int32) (H : HS) : rn 50 70 [l0, l1, l2, l3, l4, l5, l6, l7] [.int s0] H = if s0 = 0 then rn 50 76 [l0, l1, l2, l3, l4, l5, l6, l7] [] H else rn 50 73 [l0, l1, l2, l3, l4, l5, l6, l7] [] H := (rn_ev ..).trans (ev_bif rfl)
theorem x50_28a (l0 l1 l2 l3 l4 l5 l6 l7 : Value) (s0 : Nat) (H : HS) : rn 50 28 [l0, l1, l2, l3, l4, l5, l6, l7] [.ref s0] H = rn 50 31 [l0, l1, l2, l3, l4, l5, l6, l7] [] H := rn_nx rfl
theorem x50_31 (l0 l2 l3 l4 l5 l6 l7 : Value) (l1 : Nat) (H : HS) : rn 50 31 [l0, .ref l1, l2, l3, l4, l5, l6, l7] [] H = rn 50 32 [l0, .ref l1, l2, l3, l4, l5, l6, l7] [.ref l1] H := rn_nx rfl
theorem x50_32 (l0 l1 l2 l3 l4 l5 l7 : Value) (l6 : Nat) (s0 : Nat) (H : HS) : rn 50 32 [l0, l1, l2, l3, l4, l5, .ref l6, l7] [.ref s0] H = rn 50 34 [l0, l1, l2, l3, l4, l5, .ref l6, l7] [.ref l6, .ref s0] H := rn_nx rfl
theorem x50_34 (l0 l1 l2 l3 l4 l5 l6 l7 : Value) (s0 : Nat) (s1 : Nat) (H : HS) (h : recv H s1 2 = true) : rn 50 34 [l0, l1, l2, l3, l4, l5, l6, l7] [.ref s0, .ref s1] H = bnd true 50 34 [l0, l1, l2, l3, l4, l5, l6, l7] [] (rcal 87 [.ref s1, .ref s0] H) := rn_cal (vcal h rfl)
theorem x50_37 (l0 l1 l2 l3 l4 l5 l6 l7 : Value) (s0 : Int32) (H : HS) : rn 50 37 [l0, l1, l2, l3, l4, l5, l6, l7] [.int s0] H = if s0 = 0 then rn 50 44 [l0, l1, l2, l3, l4, l5, l6, l7] [] H else rn 50 40 [l0, l1, l2, l3, l4, l5, l6, l7] [] H := (rn_ev ..).trans (ev_bif rfl)
theorem x50_44 (l0 l1 l2 l3 l4 l5 l6 l7 : Value) (H : HS) : rn 50 44 [l0, l1, l2, l3, l4, l5, l6, l7] [] H = rn 50 45 [l0, l1, l2, l3, l4, l5, l6, l7] [.int 0] H := rn_nx rfl
theorem x50_82 (l0 l1 l3 l4 l5 l6 l7 : Value) (l2 : Nat) (H : HS) : rn 50 82 [l0, l1, .ref l2, l3, l4, l5, l6, l7] [] H = rn 50 83 [l0, l1, .ref l2, l3, l4, l5, l6, l7] [.ref l2] H := rn_nx rfl
theorem x50_82n (l0 l1 l3 l4 l5 l6 l7 : Value) (H : HS) : rn 50 82 [l0, l1, .null, l3, l4, l5, l6, l7] [] H = rn 50 83 [l0, l1, .null, l3, l4, l5, l6, l7] [.null] H := rn_nx rfl
theorem x50_83 (l0 l1 l2 l3 l4 l5 l6 l7 : Value) (H : HS) : rn 50 83 [l0, l1, l2, l3, l4, l5, l6, l7] [.null] H = some (.inl (some (.null)), H) := rn_end rfl
theorem x50_83a (l0 l1 l2 l3 l4 l5 l6 l7 : Value) (s0 : Nat) (H : HS) : rn 50 83 [l0, l1, l2, l3, l4, l5, l6, l7] [.ref s0] H = some (.inl (some (.ref s0)), H) := rn_end rfl
theorem c50 (a0 : Nat) (a1 : Nat) (H : HS) : rcal 50 [.ref a0, .ref a1] H = rn 50 0 [.ref a0, .ref a1, un, un, un, un, un, un] [] H := rfl
theorem c50n (a0 : Nat) (H : HS) : rcal 50 [.ref a0, .null] H = rn 50 0 [.ref a0, .null, un, un, un, un, un, un] [] H := rfl
theorem x51_0 (l1 l2 l3 l4 l5 l6 : Value) (l0 : Nat) (H : HS) : rn 51 0 [.ref l0, l1, l2, l3, l4, l5, l6] [] H = rn 51 1 [.ref l0, l1, l2, l3, l4, l5, l6] [.ref l0] H := rn_nx rfl
theorem x51_1 (l0 l2 l3 l4 l5 l6 : Value) (l1 : Nat) (s0 : Nat) (H : HS) : rn 51 1 [l0, .ref l1, l2, l3, l4, l5, l6] [.ref s0] H = rn 51 2 [l0, .ref l1, l2, l3, l4, l5, l6] [.ref l1, .ref s0] H := rn_nx rfl
theorem x51_2 (l0 l1 l2 l3 l4 l5 l6 : Value) (s0 : Nat) (s1 : Nat) (H : HS) (h : recv H s1 1 = true) : rn 51 2 [l0, l1, l2, l3, l4, l5, l6] [.ref s0, .ref s1] H = bnd true 51 2 [l0, l1, l2, l3, l4, l5, l6] [] (rcal 35 [.ref s1, .ref s0] H) := rn_cal (vcal h rfl)
theorem x51_5 (l1 l2 l3 l4 l5 l6 : Value) (l0 : Nat) (H : HS) : rn 51 5 [.ref l0, l1, l2, l3, l4, l5, l6] [] H = rn 51 6 [.ref l0, l1, l2, l3, l4, l5, l6] [.ref l0] H := rn_nx rfl
theorem x51_6 (l0 l1 l2 l3 l4 l5 l6 : Value) (s0 : Nat) (H : HS) : rn 51 6 [l0, l1, l2, l3, l4, l5, l6] [.ref s0] H = gk 51 9 [l0, l1, l2, l3, l4, l5, l6] [] H (gfd H 1 4 s0) := (rn_ev ..).trans (ev_gk rfl)
theorem x51_9 (l0 l1 l2 l3 l4 l5 l6 : Value) (s0 : Nat) (H : HS) : rn 51 9 [l0, l1, l2, l3, l4, l5, l6] [.ref s0] H = rn 51 10 [l0, l1, (kl l2), .ref s0, l4, l5, l6] [] H := rn_nx rfl
theorem x51_10 (l0 l1 l2 l4 l5 l6 : Value) (l3 : Nat) (H : HS) : rn 51 10 [l0, l1, l2, .ref l3, l4, l5, l6] [] H = rn 51 11 [l0, l1, l2, .ref l3, l4, l5, l6] [.ref l3] H := rn_nx rfl
theorem x51_11 (l0 l1 l2 l3 l4 l5 l6 : Value) (s0 : Nat) (H : HS) : rn 51 11 [l0, l1, l2, l3, l4, l5, l6] [.ref s0] H = gk 51 12 [l0, l1, l2, l3, l4, l5, l6] [] H (alen H s0) := (rn_ev ..).trans (ev_gk rfl)
theorem x51_12 (l0 l1 l2 l3 l4 l5 l6 : Value) (s0 : Int32) (H : HS) : rn 51 12 [l0, l1, l2, l3, l4, l5, l6] [.int s0] H = rn 51 14 [l0, l1, l2, (kl l3), .int s0, l5, l6] [] H := rn_nx rfl
theorem x51_14 (l0 l1 l2 l3 l4 l5 l6 : Value) (H : HS) : rn 51 14 [l0, l1, l2, l3, l4, l5, l6] [] H = rn 51 15 [l0, l1, l2, l3, l4, l5, l6] [.int 0] H := rn_nx rfl
theorem x51_15 (l0 l1 l2 l3 l4 l5 l6 : Value) (s0 : Int32) (H : HS) : rn 51 15 [l0, l1, l2, l3, l4, l5, l6] [.int s0] H = rn 51 17 [l0, l1, l2, l3, (kl l4), .int s0, l6] [] H := rn_nx rfl
theorem x51_17 (l0 l1 l2 l3 l4 l6 : Value) (l5 : Int32) (H : HS) : rn 51 17 [l0, l1, l2, l3, l4, .int l5, l6] [] H = rn 51 19 [l0, l1, l2, l3, l4, .int l5, l6] [.int l5] H := rn_nx rfl
theorem x51_19 (l0 l1 l2 l3 l5 l6 : Value) (l4 : Int32) (s0 : Int32) (H : HS) : rn 51 19 [l0, l1, l2, l3, .int l4, l5, l6] [.int s0] H = rn 51 21 [l0, l1, l2, l3, .int l4, l5, l6] [.int l4, .int s0] H := rn_nx rfl
theorem x51_21 (l0 l1 l2 l3 l4 l5 l6 : Value) (s0 : Int32) (s1 : Int32) (H : HS) : rn 51 21 [l0, l1, l2, l3, l4, l5, l6] [.int s0, .int s1] H = if s1 < s0 then rn 51 24 [l0, l1, l2, l3, l4, l5, l6] [] H else rn 51 62 [l0, l1, l2, l3, l4, l5, l6] [] H := (rn_ev ..).trans (ev_bin rfl)
theorem x51_24 (l0 l1 l2 l4 l5 l6 : Value) (l3 : Nat) (H : HS) : rn 51 24 [l0, l1, l2, .ref l3, l4, l5, l6] [] H = rn 51 25 [l0, l1, l2, .ref l3, l4, l5, l6] [.ref l3] H := rn_nx rfl
theorem x51_25 (l0 l1 l2 l3 l4 l6 : Value) (l5 : Int32) (s0 : Nat) (H : HS) : rn 51 25 [l0, l1, l2, l3, l4, .int l5, l6] [.ref s0] H = rn 51 27 [l0, l1, l2, l3, l4, .int l5, l6] [.int l5, .ref s0] H := rn_nx rfl
theorem x51_27 (l0 l1 l2 l3 l4 l5 l6 : Value) (s0 : Int32) (s1 : Nat) (H : HS) : rn 51 27 [l0, l1, l2, l3, l4, l5, l6] [.int s0, .ref s1] H = gk 51 28 [l0, l1, l2, l3, l4, l5, l6] [] H (aald H s1 s0) := (rn_ev ..).trans (ev_gk rfl)
theorem x51_28 (l0 l1 l2 l3 l4 l5 l6 : Value) (s0 : Nat) (H : HS) : rn 51 28 [l0, l1, l2, l3, l4, l5, l6] [.ref s0] H = rn 51 30 [l0, l1, l2, l3, l4, (kl l5), .ref s0] [] H := rn_nx rfl
theorem x51_30 (l0 l1 l2 l3 l4 l5 : Value) (l6 : Nat) (H : HS) : rn 51 30 [l0, l1, l2, l3, l4, l5, .ref l6] [] H = rn 51 32 [l0, l1, l2, l3, l4, l5, .ref l6] [.ref l6] H := rn_nx rfl
theorem x51_32 (l0 l1 l2 l3 l4 l5 l6 : Value) (s0 : Nat) (H : HS) : rn 51 32 [l0, l1, l2, l3, l4, l5, l6] [.ref s0] H = gk 51 35 [l0, l1, l2, l3, l4, l5, l6] [] H (gfd H 2 1 s0) := (rn_ev ..).trans (ev_gk rfl)
theorem x51_35 (l0 l1 l3 l4 l5 l6 : Value) (l2 : Int32) (s0 : Int32) (H : HS) : rn 51 35 [l0, l1, .int l2, l3, l4, l5, l6] [.int s0] H = rn 51 36 [l0, l1, .int l2, l3, l4, l5, l6] [.int l2, .int s0] H := rn_nx rfl
theorem x51_36 (l0 l1 l2 l3 l4 l5 l6 : Value) (s0 : Int32) (s1 : Int32) (H : HS) : rn 51 36 [l0, l1, l2, l3, l4, l5, l6] [.int s0, .int s1] H = if s1 = s0 then rn 51 39 [l0, l1, l2, l3, l4, l5, l6] [] H else rn 51 48 [l0, l1, l2, l3, l4, l5, l6] [] H := (rn_ev ..).trans (ev_bin rfl)
theorem x51_39 (l0 l1 l2 l3 l4 l5 : Value) (l6 : Nat) (H : HS) : rn 51 39 [l0, l1, l2, l3, l4, l5, .ref l6] [] H = rn 51 41 [l0, l1, l2, l3, l4, l5, .ref l6] [.ref l6] H := rn_nx rfl
theorem x51_41 (l0 l1 l2 l3 l4 l5 l6 : Value) (s0 : Nat) (H : HS) : rn 51 41 [l0, l1, l2, l3, l4, l5, l6] [.ref s0] H = rn 51 42 [l0, l1, l2, l3, l4, l5, l6] [.int 0, .ref s0] H := rn_nx rfl
theorem x51_42 (l0 l1 l2 l3 l4 l5 l6 : Value) (s0 : Int32) (s1 : Nat) (H : HS) : rn 51 42 [l0, l1, l2, l3, l4, l5, l6] [.int s0, .ref s1] H = pk 51 45 [l0, l1, l2, l3, l4, l5, l6] [] (pfd H true 2 9 s1 (.int s0)) := (rn_ev ..).trans (ev_pk rfl)
theorem x51_45 (l0 l1 l2 l3 l4 l5 l6 : Value) (H : HS) : rn 51 45 [l0, l1, l2, l3, l4, l5, l6] [] H = rn 51 56 [l0, l1, l2, l3, l4, l5, l6] [] H := rn_nx rfl
theorem x51_56 (l0 l1 l2 l3 l4 l6 : Value) (l5 : Int32) (H : HS) : rn 51 56 [l0, l1, l2, l3, l4, .int l5, l6] [] H = rn 51 59 [l0, l1, l2, l3, (kl l4), .int (l5 + 1), l6] [] H := rn_nx rfl
theorem x51_59 (l0 l1 l2 l3 l4 l5 l6 : Value) (H : HS) : rn 51 59 [l0, l1, l2, l3, l4, l5, l6] [] H = rn 51 17 [l0, l1, l2, l3, l4, l5, l6] [] H := rn_nx rfl
theorem x51_48 (l0 l1 l2 l3 l4 l5 : Value) (l6 : Nat) (H : HS) : rn 51 48 [l0, l1, l2, l3, l4, l5, .ref l6] [] H = rn 51 50 [l0, l1, l2, l3, l4, l5, .ref l6] [.ref l6] H := rn_nx rfl
theorem x51_50 (l0 l1 l2 l3 l4 l5 l6 : Value) (s0 : Nat) (H : HS) : rn 51 50 [l0, l1, l2, l3, l4, l5, l6] [.ref s0] H = rn 51 53 [l0, l1, l2, l3, l4, l5, l6] [.ref 1, .ref s0] H := rn_nx rfl
theorem x51_53 (l0 l1 l2 l3 l4 l5 l6 : Value) (s0 : Nat) (s1 : Nat) (H : HS) : rn 51 53 [l0, l1, l2, l3, l4, l5, l6] [.ref s0, .ref s1] H = pk 51 56 [l0, l1, l2, l3, l4, l5, l6] [] (pfd H true 2 0 s1 (.ref s0)) := (rn_ev ..).trans (ev_pk rfl)
theorem x51_62 (l1 l2 l3 l4 l5 l6 : Value) (l0 : Nat) (H : HS) : rn 51 62 [.ref l0, l1, l2, l3, l4, l5, l6] [] H = rn 51 63 [.ref l0, l1, l2, l3, l4, l5, l6] [.ref l0] H := rn_nx rfl
theorem x51_63 (l0 l1 l2 l3 l4 l5 l6 : Value) (s0 : Nat) (H : HS) : rn 51 63 [l0, l1, l2, l3, l4, l5, l6] [.ref s0] H = rn 51 64 [l0, l1, l2, l3, l4, l5, l6] [.int 1, .ref s0] H := rn_nx rfl
theorem x51_64 (l0 l1 l2 l3 l4 l5 l6 : Value) (s0 : Int32) (s1 : Nat) (H : HS) : rn 51 64 [l0, l1, l2, l3, l4, l5, l6] [.int s0, .ref s1] H = pk 51 67 [l0, l1, l2, l3, l4, l5, l6] [] (pfd H true 1 5 s1 (.int s0)) := (rn_ev ..).trans (ev_pk rfl)
theorem x51_67 (l0 l1 l2 l3 l4 l5 l6 : Value) (H : HS) : rn 51 67 [l0, l1, l2, l3, l4, l5, l6] [] H = some (.inl none, H) := rn_end rfl
theorem c51 (a0 : Nat) (a1 : Nat) (a2 : Int32) (H : HS) : rcal 51 [.ref a0, .ref a1, .int a2] H = rn 51 0 [.ref a0, .ref a1, .int a2, un, un, un, un] [] H := rfl
theorem x52_0 (l0 l1 l2 : Value) (H : HS) : rn 52 0 [l0, l1, l2] [] H = rn 52 1 [l0, l1, l2] [.int 0] H := rn_nx rfl
theorem x52_1 (l0 l1 l2 : Value) (s0 : Int32) (H : HS) : rn 52 1 [l0, l1, l2] [.int s0] H = rn 52 2 [l0, (kl l1), .int s0] [] H := rn_nx rfl
theorem x52_2 (l0 l1 : Value) (l2 : Int32) (H : HS) : rn 52 2 [l0, l1, .int l2] [] H = rn 52 3 [l0, l1, .int l2] [.int l2] H := rn_nx rfl
theorem x52_3 (l0 l1 l2 : Value) (s0 : Int32) (H : HS) : rn 52 3 [l0, l1, l2] [.int s0] H = rn 52 6 [l0, l1, l2] [.int 300, .int s0] H := rn_nx rfl
theorem x52_6 (l0 l1 l2 : Value) (s0 : Int32) (s1 : Int32) (H : HS) : rn 52 6 [l0, l1, l2] [.int s0, .int s1] H = if s1 < s0 then rn 52 9 [l0, l1, l2] [] H else rn 52 32 [l0, l1, l2] [] H := (rn_ev ..).trans (ev_bin rfl)
theorem x52_9 (l1 l2 : Value) (l0 : Nat) (H : HS) : rn 52 9 [.ref l0, l1, l2] [] H = rn 52 10 [.ref l0, l1, l2] [.ref l0] H := rn_nx rfl
theorem x52_10 (l0 l1 l2 : Value) (s0 : Nat) (H : HS) (h : recv H s0 1 = true) : rn 52 10 [l0, l1, l2] [.ref s0] H = bnd true 52 10 [l0, l1, l2] [] (rcal 44 [.ref s0] H) := rn_cal (vcal h rfl)
theorem x52_13 (l1 l2 : Value) (l0 : Nat) (H : HS) : rn 52 13 [.ref l0, l1, l2] [] H = rn 52 14 [.ref l0, l1, l2] [.ref l0] H := rn_nx rfl
theorem x52_14 (l0 l2 : Value) (l1 : Int32) (s0 : Nat) (H : HS) : rn 52 14 [l0, .int l1, l2] [.ref s0] H = rn 52 15 [l0, .int l1, l2] [.int l1, .ref s0] H := rn_nx rfl
theorem x52_15 (l0 l1 l2 : Value) (s0 : Int32) (s1 : Nat) (H : HS) (h : recv H s1 1 = true) : rn 52 15 [l0, l1, l2] [.int s0, .ref s1] H = bnd true 52 15 [l0, l1, l2] [] (rcal 58 [.ref s1, .int s0] H) := rn_cal (vcal h rfl)
theorem x52_18 (l0 l1 l2 : Value) (H : HS) : rn 52 18 [l0, l1, l2] [.null] H = rn 52 21 [l0, l1, l2] [] H := rn_nx rfl
theorem x52_21 (l1 l2 : Value) (l0 : Nat) (H : HS) : rn 52 21 [.ref l0, l1, l2] [] H = rn 52 22 [.ref l0, l1, l2] [.ref l0] H := rn_nx rfl
theorem x52_22 (l0 l1 l2 : Value) (s0 : Nat) (H : HS) : rn 52 22 [l0, l1, l2] [.ref s0] H = gk 52 25 [l0, l1, l2] [] H (gfd H 1 7 s0) := (rn_ev ..).trans (ev_gk rfl)
theorem x52_25 (l0 l1 l2 : Value) (s0 : Int32) (H : HS) : rn 52 25 [l0, l1, l2] [.int s0] H = some (.inl (some (.int s0)), H) := rn_end rfl
theorem x52_18a (l0 l1 l2 : Value) (s0 : Nat) (H : HS) : rn 52 18 [l0, l1, l2] [.ref s0] H = rn 52 26 [l0, l1, l2] [] H := rn_nx rfl
theorem x52_26 (l0 l1 : Value) (l2 : Int32) (H : HS) : rn 52 26 [l0, l1, .int l2] [] H = rn 52 29 [l0, (kl l1), .int (l2 + 1)] [] H := rn_nx rfl
theorem x52_29 (l0 l1 l2 : Value) (H : HS) : rn 52 29 [l0, l1, l2] [] H = rn 52 2 [l0, l1, l2] [] H := rn_nx rfl
theorem x52_32 (l0 l1 l2 : Value) (H : HS) : rn 52 32 [l0, l1, l2] [] H = rn 52 33 [l0, l1, l2] [.int (-1)] H := rn_nx rfl
theorem x52_33 (l0 l1 l2 : Value) (s0 : Int32) (H : HS) : rn 52 33 [l0, l1, l2] [.int s0] H = some (.inl (some (.int s0)), H) := rn_end rfl
theorem c52 (a0 : Nat) (a1 : Int32) (H : HS) : rcal 52 [.ref a0, .int a1] H = rn 52 0 [.ref a0, .int a1, un] [] H := rfl
theorem x53_0 (l0 l1 : Value) (H : HS) : rn 53 0 [l0, l1] [] H = rn 53 1 [l0, l1] [.int 0] H := rn_nx rfl
theorem x53_1 (l0 l1 : Value) (s0 : Int32) (H : HS) : rn 53 1 [l0, l1] [.int s0] H = rn 53 2 [(kl l0), .int s0] [] H := rn_nx rfl
theorem x53_2 (l0 : Value) (l1 : Int32) (H : HS) : rn 53 2 [l0, .int l1] [] H = rn 53 3 [l0, .int l1] [.int l1] H := rn_nx rfl
theorem x53_3 (l0 l1 : Value) (s0 : Int32) (H : HS) : rn 53 3 [l0, l1] [.int s0] H = rn 53 6 [l0, l1] [.int 300, .int s0] H := rn_nx rfl
theorem x53_6 (l0 l1 : Value) (s0 : Int32) (s1 : Int32) (H : HS) : rn 53 6 [l0, l1] [.int s0, .int s1] H = if s1 < s0 then rn 53 9 [l0, l1] [] H else rn 53 26 [l0, l1] [] H := (rn_ev ..).trans (ev_bin rfl)
theorem x53_9 (l1 : Value) (l0 : Nat) (H : HS) : rn 53 9 [.ref l0, l1] [] H = rn 53 10 [.ref l0, l1] [.ref l0] H := rn_nx rfl
theorem x53_10 (l0 l1 : Value) (s0 : Nat) (H : HS) : rn 53 10 [l0, l1] [.ref s0] H = gk 53 13 [l0, l1] [] H (gfd H 1 5 s0) := (rn_ev ..).trans (ev_gk rfl)
theorem x53_13 (l0 l1 : Value) (s0 : Int32) (H : HS) : rn 53 13 [l0, l1] [.int s0] H = if 0 < s0 then rn 53 16 [l0, l1] [] H else rn 53 26 [l0, l1] [] H := (rn_ev ..).trans (ev_bin rfl)
theorem x53_16 (l1 : Value) (l0 : Nat) (H : HS) : rn 53 16 [.ref l0, l1] [] H = rn 53 17 [.ref l0, l1] [.ref l0] H := rn_nx rfl
theorem x53_17 (l0 l1 : Value) (s0 : Nat) (H : HS) (h : recv H s0 1 = true) : rn 53 17 [l0, l1] [.ref s0] H = bnd true 53 17 [l0, l1] [] (rcal 44 [.ref s0] H) := rn_cal (vcal h rfl)
theorem x53_20 (l0 : Value) (l1 : Int32) (H : HS) : rn 53 20 [l0, .int l1] [] H = rn 53 23 [(kl l0), .int (l1 + 1)] [] H := rn_nx rfl
theorem x53_23 (l0 l1 : Value) (H : HS) : rn 53 23 [l0, l1] [] H = rn 53 2 [l0, l1] [] H := rn_nx rfl
theorem x53_26 (l1 : Value) (l0 : Nat) (H : HS) : rn 53 26 [.ref l0, l1] [] H = rn 53 27 [.ref l0, l1] [.ref l0] H := rn_nx rfl
theorem x53_27 (l0 l1 : Value) (s0 : Nat) (H : HS) : rn 53 27 [l0, l1] [.ref s0] H = gk 53 30 [l0, l1] [] H (gfd H 1 5 s0) := (rn_ev ..).trans (ev_gk rfl)
theorem x53_30 (l0 l1 : Value) (s0 : Int32) (H : HS) : rn 53 30 [l0, l1] [.int s0] H = some (.inl (some (.int s0)), H) := rn_end rfl
theorem c53 (a0 : Nat) (H : HS) : rcal 53 [.ref a0] H = rn 53 0 [.ref a0, un] [] H := rfl
theorem x54_0 (l0 l2 l3 l4 l5 : Value) (l1 : Nat) (H : HS) : rn 54 0 [l0, .ref l1, l2, l3, l4, l5] [] H = rn 54 1 [l0, .ref l1, l2, l3, l4, l5] [.ref l1] H := rn_nx rfl
theorem x54_1 (l0 l1 l2 l3 l4 l5 : Value) (s0 : Nat) (H : HS) : rn 54 1 [l0, l1, l2, l3, l4, l5] [.ref s0] H = gk 54 4 [l0, l1, l2, l3, l4, l5] [] H (gfd H 1 4 s0) := (rn_ev ..).trans (ev_gk rfl)
theorem x54_4 (l0 l1 l2 l3 l4 l5 : Value) (s0 : Nat) (H : HS) : rn 54 4 [l0, l1, l2, l3, l4, l5] [.ref s0] H = rn 54 5 [l0, (kl l1), .ref s0, l3, l4, l5] [] H := rn_nx rfl
theorem x54_5 (l0 l1 l3 l4 l5 : Value) (l2 : Nat) (H : HS) : rn 54 5 [l0, l1, .ref l2, l3, l4, l5] [] H = rn 54 6 [l0, l1, .ref l2, l3, l4, l5] [.ref l2] H := rn_nx rfl
theorem x54_6 (l0 l1 l2 l3 l4 l5 : Value) (s0 : Nat) (H : HS) : rn 54 6 [l0, l1, l2, l3, l4, l5] [.ref s0] H = gk 54 7 [l0, l1, l2, l3, l4, l5] [] H (alen H s0) := (rn_ev ..).trans (ev_gk rfl)
theorem x54_7 (l0 l1 l2 l3 l4 l5 : Value) (s0 : Int32) (H : HS) : rn 54 7 [l0, l1, l2, l3, l4, l5] [.int s0] H = rn 54 8 [l0, l1, (kl l2), .int s0, l4, l5] [] H := rn_nx rfl
theorem x54_8 (l0 l1 l2 l3 l4 l5 : Value) (H : HS) : rn 54 8 [l0, l1, l2, l3, l4, l5] [] H = rn 54 9 [l0, l1, l2, l3, l4, l5] [.int 0] H := rn_nx rfl
theorem x54_9 (l0 l1 l2 l3 l4 l5 : Value) (s0 : Int32) (H : HS) : rn 54 9 [l0, l1, l2, l3, l4, l5] [.int s0] H = rn 54 11 [l0, l1, l2, (kl l3), .int s0, l5] [] H := rn_nx rfl
theorem x54_11 (l0 l1 l2 l3 l5 : Value) (l4 : Int32) (H : HS) : rn 54 11 [l0, l1, l2, l3, .int l4, l5] [] H = rn 54 13 [l0, l1, l2, l3, .int l4, l5] [.int l4] H := rn_nx rfl
theorem x54_13 (l0 l1 l2 l4 l5 : Value) (l3 : Int32) (s0 : Int32) (H : HS) : rn 54 13 [l0, l1, l2, .int l3, l4, l5] [.int s0] H = rn 54 14 [l0, l1, l2, .int l3, l4, l5] [.int l3, .int s0] H := rn_nx rfl
theorem x54_14 (l0 l1 l2 l3 l4 l5 : Value) (s0 : Int32) (s1 : Int32) (H : HS) : rn 54 14 [l0, l1, l2, l3, l4, l5] [.int s0, .int s1] H = if s1 < s0 then rn 54 17 [l0, l1, l2, l3, l4, l5] [] H else rn 54 67 [l0, l1, l2, l3, l4, l5] [] H := (rn_ev ..).trans (ev_bin rfl)
theorem x54_17 (l0 l1 l3 l4 l5 : Value) (l2 : Nat) (H : HS) : rn 54 17 [l0, l1, .ref l2, l3, l4, l5] [] H = rn 54 18 [l0, l1, .ref l2, l3, l4, l5] [.ref l2] H := rn_nx rfl
theorem x54_18 (l0 l1 l2 l3 l5 : Value) (l4 : Int32) (s0 : Nat) (H : HS) : rn 54 18 [l0, l1, l2, l3, .int l4, l5] [.ref s0] H = rn 54 20 [l0, l1, l2, l3, .int l4, l5] [.int l4, .ref s0] H := rn_nx rfl
theorem x54_20 (l0 l1 l2 l3 l4 l5 : Value) (s0 : Int32) (s1 : Nat) (H : HS) : rn 54 20 [l0, l1, l2, l3, l4, l5] [.int s0, .ref s1] H = gk 54 21 [l0, l1, l2, l3, l4, l5] [] H (aald H s1 s0) := (rn_ev ..).trans (ev_gk rfl)
theorem x54_21 (l0 l1 l2 l3 l4 l5 : Value) (s0 : Nat) (H : HS) : rn 54 21 [l0, l1, l2, l3, l4, l5] [.ref s0] H = rn 54 23 [l0, l1, l2, l3, (kl l4), .ref s0] [] H := rn_nx rfl
theorem x54_23 (l0 l2 l3 l4 l5 : Value) (l1 : Nat) (H : HS) : rn 54 23 [l0, .ref l1, l2, l3, l4, l5] [] H = rn 54 24 [l0, .ref l1, l2, l3, l4, l5] [.ref l1] H := rn_nx rfl
theorem x54_24 (l0 l1 l2 l3 l4 : Value) (l5 : Nat) (s0 : Nat) (H : HS) : rn 54 24 [l0, l1, l2, l3, l4, .ref l5] [.ref s0] H = rn 54 26 [l0, l1, l2, l3, l4, .ref l5] [.ref l5, .ref s0] H := rn_nx rfl
theorem x54_26 (l0 l1 l2 l3 l4 l5 : Value) (s0 : Nat) (s1 : Nat) (H : HS) (h : recv H s1 1 = true) : rn 54 26 [l0, l1, l2, l3, l4, l5] [.ref s0, .ref s1] H = bnd true 54 26 [l0, l1, l2, l3, l4, l5] [] (rcal 63 [.ref s1, .ref s0] H) := rn_cal (vcal h rfl)
theorem x54_29 (l0 l1 l2 l3 l4 l5 : Value) (s0 : Int32) (H : HS) : rn 54 29 [l0, l1, l2, l3, l4, l5] [.int s0] H = if s0 = 0 then rn 54 61 [l0, l1, l2, l3, l4, l5] [] H else rn 54 32 [l0, l1, l2, l3, l4, l5] [] H := (rn_ev ..).trans (ev_bif rfl)
theorem x54_32 (l1 l2 l3 l4 l5 : Value) (l0 : Nat) (H : HS) : rn 54 32 [.ref l0, l1, l2, l3, l4, l5] [] H = rn 54 33 [.ref l0, l1, l2, l3, l4, l5] [.ref l0] H := rn_nx rfl
theorem x54_33 (l0 l2 l3 l4 l5 : Value) (l1 : Nat) (s0 : Nat) (H : HS) : rn 54 33 [l0, .ref l1, l2, l3, l4, l5] [.ref s0] H = rn 54 34 [l0, .ref l1, l2, l3, l4, l5] [.ref l1, .ref s0] H := rn_nx rfl
theorem x54_34 (l0 l1 l2 l3 l4 : Value) (l5 : Nat) (s0 : Nat) (s1 : Nat) (H : HS) : rn 54 34 [l0, l1, l2, l3, l4, .ref l5] [.ref s0, .ref s1] H = rn 54 36 [l0, l1, l2, l3, l4, .ref l5] [.ref l5, .ref s0, .ref s1] H := rn_nx rfl
theorem x54_36 (l0 l1 l2 l3 l4 l5 : Value) (s0 : Nat) (s1 : Nat) (s2 : Nat) (H : HS) : rn 54 36 [l0, l1, l2, l3, l4, l5] [.ref s0, .ref s1, .ref s2] H = gk 54 39 [l0, l1, l2, l3, l4, l5] [.ref s1, .ref s2] H (gfd H 2 1 s0) := (rn_ev ..).trans (ev_gk rfl)
theorem x54_39 (l0 l1 l2 l3 l4 l5 : Value) (s0 : Int32) (s1 : Nat) (s2 : Nat) (H : HS) (h : recv H s2 1 = true) : rn 54 39 [l0, l1, l2, l3, l4, l5] [.int s0, .ref s1, .ref s2] H = bnd true 54 39 [l0, l1, l2, l3, l4, l5] [] (rcal 51 [.ref s2, .ref s1, .int s0] H) := rn_cal (vcal h rfl)
theorem x54_42 (l1 l2 l3 l4 l5 : Value) (l0 : Nat) (H : HS) : rn 54 42 [.ref l0, l1, l2, l3, l4, l5] [] H = rn 54 43 [.ref l0, l1, l2, l3, l4, l5] [.ref l0] H := rn_nx rfl
theorem x54_43 (l0 l1 l2 l3 l4 : Value) (l5 : Nat) (s0 : Nat) (H : HS) : rn 54 43 [l0, l1, l2, l3, l4, .ref l5] [.ref s0] H = rn 54 45 [l0, l1, l2, l3, l4, .ref l5] [.ref l5, .ref s0] H := rn_nx rfl
theorem x54_45 (l0 l1 l2 l3 l4 l5 : Value) (s0 : Nat) (s1 : Nat) (H : HS) : rn 54 45 [l0, l1, l2, l3, l4, l5] [.ref s0, .ref s1] H = gk 54 48 [l0, l1, l2, l3, l4, l5] [.ref s1] H (gfd H 2 1 s0) := (rn_ev ..).trans (ev_gk rfl)
theorem x54_48 (l0 l1 l2 l3 l4 l5 : Value) (s0 : Int32) (s1 : Nat) (H : HS) (h : recv H s1 1 = true) : rn 54 48 [l0, l1, l2, l3, l4, l5] [.int s0, .ref s1] H = bnd true 54 48 [l0, l1, l2, l3, l4, l5] [] (rcal 52 [.ref s1, .int s0] H) := rn_cal (vcal h rfl)
theorem x54_51 (l0 l1 l2 l3 l4 : Value) (l5 : Nat) (s0 : Int32) (H : HS) : rn 54 51 [l0, l1, l2, l3, l4, .ref l5] [.int s0] H = rn 54 53 [l0, l1, l2, l3, l4, .ref l5] [.ref l5, .int s0] H := rn_nx rfl
theorem x54_53 (l0 l1 l2 l3 l4 l5 : Value) (s0 : Nat) (s1 : Int32) (H : HS) : rn 54 53 [l0, l1, l2, l3, l4, l5] [.ref s0, .int s1] H = gk 54 56 [l0, l1, l2, l3, l4, l5] [.int s1] H (gfd H 2 5 s0) := (rn_ev ..).trans (ev_gk rfl)
theorem x54_56 (l0 l1 l2 l3 l4 l5 : Value) (s0 : Int32) (s1 : Int32) (H : HS) : rn 54 56 [l0, l1, l2, l3, l4, l5] [.int s0, .int s1] H = if s1 = s0 then rn 54 61 [l0, l1, l2, l3, l4, l5] [] H else rn 54 59 [l0, l1, l2, l3, l4, l5] [] H := (rn_ev ..).trans (ev_bif rfl)
theorem x54_59 (l0 l1 l2 l3 l4 l5 : Value) (H : HS) : rn 54 59 [l0, l1, l2, l3, l4, l5] [] H = rn 54 60 [l0, l1, l2, l3, l4, l5] [.int 0] H := rn_nx rfl
theorem x54_60 (l0 l1 l2 l3 l4 l5 : Value) (s0 : Int32) (H : HS) : rn 54 60 [l0, l1, l2, l3, l4, l5] [.int s0] H = if fitp 1 (.int s0) = true then some (.inl (some (.int s0)), H) else none := (rn_ev ..).trans (ev_ret rfl)
theorem x54_61 (l0 l1 l2 l3 l5 : Value) (l4 : Int32) (H : HS) : rn 54 61 [l0, l1, l2, l3, .int l4, l5] [] H = rn 54 64 [l0, l1, l2, (kl l3), .int (l4 + 1), l5] [] H := rn_nx rfl
theorem x54_64 (l0 l1 l2 l3 l4 l5 : Value) (H : HS) : rn 54 64 [l0, l1, l2, l3, l4, l5] [] H = rn 54 11 [l0, l1, l2, l3, l4, l5] [] H := rn_nx rfl
theorem x54_67 (l0 l1 l2 l3 l4 l5 : Value) (H : HS) : rn 54 67 [l0, l1, l2, l3, l4, l5] [] H = rn 54 68 [l0, l1, l2, l3, l4, l5] [.int 1] H := rn_nx rfl
theorem x54_68 (l0 l1 l2 l3 l4 l5 : Value) (s0 : Int32) (H : HS) : rn 54 68 [l0, l1, l2, l3, l4, l5] [.int s0] H = if fitp 1 (.int s0) = true then some (.inl (some (.int s0)), H) else none := (rn_ev ..).trans (ev_ret rfl)
theorem c54 (a0 : Nat) (a1 : Nat) (H : HS) : rcal 54 [.ref a0, .ref a1] H = rn 54 0 [.ref a0, .ref a1, un, un, un, un] [] H := rfl
theorem x55_0 (l0 : Value) (l1 : Int32) (H : HS) : rn 55 0 [l0, .int l1] [] H = rn 55 1 [l0, .int l1] [.int l1] H := rn_nx rfl
theorem x55_1 (l0 l1 : Value) (s0 : Int32) (H : HS) : rn 55 1 [l0, l1] [.int s0] H = if s0 < 0 then rn 55 16 [l0, l1] [] H else rn 55 4 [l0, l1] [] H := (rn_ev ..).trans (ev_bif rfl)
theorem x55_4 (l0 : Value) (l1 : Int32) (H : HS) : rn 55 4 [l0, .int l1] [] H = rn 55 5 [l0, .int l1] [.int l1] H := rn_nx rfl
theorem x55_5 (l1 : Value) (l0 : Nat) (s0 : Int32) (H : HS) : rn 55 5 [.ref l0, l1] [.int s0] H = rn 55 6 [.ref l0, l1] [.ref l0, .int s0] H := rn_nx rfl
theorem x55_6 (l0 l1 : Value) (s0 : Nat) (s1 : Int32) (H : HS) : rn 55 6 [l0, l1] [.ref s0, .int s1] H = gk 55 9 [l0, l1] [.int s1] H (gfd H 1 0 s0) := (rn_ev ..).trans (ev_gk rfl)
theorem x55_9 (l0 l1 : Value) (s0 : Int32) (s1 : Int32) (H : HS) : rn 55 9 [l0, l1] [.int s0, .int s1] H = if s1 < s0 then rn 55 12 [l0, l1] [] H else rn 55 16 [l0, l1] [] H := (rn_ev ..).trans (ev_bin rfl)
theorem x55_12 (l0 l1 : Value) (H : HS) : rn 55 12 [l0, l1] [] H = rn 55 13 [l0, l1] [.int 1] H := rn_nx rfl
theorem x55_13 (l0 l1 : Value) (s0 : Int32) (H : HS) : rn 55 13 [l0, l1] [.int s0] H = rn 55 17 [l0, l1] [.int s0] H := rn_nx rfl
theorem x55_17 (l0 l1 : Value) (s0 : Int32) (H : HS) : rn 55 17 [l0, l1] [.int s0] H = if fitp 1 (.int s0) = true then some (.inl (some (.int s0)), H) else none := (rn_ev ..).trans (ev_ret rfl)
theorem x55_16 (l0 l1 : Value) (H : HS) : rn 55 16 [l0, l1] [] H = rn 55 17 [l0, l1] [.int 0] H := rn_nx rfl
theorem c55 (a0 : Nat) (a1 : Int32) (H : HS) : rcal 55 [.ref a0, .int a1] H = rn 55 0 [.ref a0, .int a1] [] H := rfl
theorem x56_0 (l0 : Value) (l1 : Int32) (H : HS) : rn 56 0 [l0, .int l1] [] H = rn 56 1 [l0, .int l1] [.int l1] H := rn_nx rfl
theorem x56_1 (l0 l1 : Value) (s0 : Int32) (H : HS) : rn 56 1 [l0, l1] [.int s0] H = if s0 < 0 then rn 56 18 [l0, l1] [] H else rn 56 4 [l0, l1] [] H := (rn_ev ..).trans (ev_bif rfl)
theorem x56_4 (l0 : Value) (l1 : Int32) (H : HS) : rn 56 4 [l0, .int l1] [] H = rn 56 5 [l0, .int l1] [.int l1] H := rn_nx rfl
theorem x56_5 (l1 : Value) (l0 : Nat) (s0 : Int32) (H : HS) : rn 56 5 [.ref l0, l1] [.int s0] H = rn 56 6 [.ref l0, l1] [.ref l0, .int s0] H := rn_nx rfl
theorem x56_6 (l0 l1 : Value) (s0 : Nat) (s1 : Int32) (H : HS) : rn 56 6 [l0, l1] [.ref s0, .int s1] H = gk 56 9 [l0, l1] [.int s1] H (gfd H 1 0 s0) := (rn_ev ..).trans (ev_gk rfl)
theorem x56_9 (l0 l1 : Value) (s0 : Int32) (s1 : Int32) (H : HS) : rn 56 9 [l0, l1] [.int s0, .int s1] H = rn 56 10 [l0, l1] [.int 1, .int s0, .int s1] H := rn_nx rfl
theorem x56_10 (l0 l1 : Value) (s0 : Int32) (s1 : Int32) (s2 : Int32) (H : HS) : rn 56 10 [l0, l1] [.int s0, .int s1, .int s2] H = rn 56 11 [l0, l1] [.int (s1 - s0), .int s2] H := rn_nx rfl
theorem x56_11 (l0 l1 : Value) (s0 : Int32) (s1 : Int32) (H : HS) : rn 56 11 [l0, l1] [.int s0, .int s1] H = if s1 < s0 then rn 56 14 [l0, l1] [] H else rn 56 18 [l0, l1] [] H := (rn_ev ..).trans (ev_bin rfl)
theorem x56_14 (l0 l1 : Value) (H : HS) : rn 56 14 [l0, l1] [] H = rn 56 15 [l0, l1] [.int 1] H := rn_nx rfl
theorem x56_15 (l0 l1 : Value) (s0 : Int32) (H : HS) : rn 56 15 [l0, l1] [.int s0] H = rn 56 19 [l0, l1] [.int s0] H := rn_nx rfl
theorem x56_19 (l0 l1 : Value) (s0 : Int32) (H : HS) : rn 56 19 [l0, l1] [.int s0] H = if fitp 1 (.int s0) = true then some (.inl (some (.int s0)), H) else none := (rn_ev ..).trans (ev_ret rfl)
theorem x56_18 (l0 l1 : Value) (H : HS) : rn 56 18 [l0, l1] [] H = rn 56 19 [l0, l1] [.int 0] H := rn_nx rfl
theorem c56 (a0 : Nat) (a1 : Int32) (H : HS) : rcal 56 [.ref a0, .int a1] H = rn 56 0 [.ref a0, .int a1] [] H := rfl
theorem x57_0 (l0 : Int32) (H : HS) : rn 57 0 [.int l0] [] H = rn 57 1 [.int l0] [.int l0] H := rn_nx rfl
theorem x57_1 (l0 : Value) (s0 : Int32) (H : HS) : rn 57 1 [l0] [.int s0] H = rn 57 2 [l0] [.int 1, .int s0] H := rn_nx rfl
theorem x57_2 (l0 : Value) (s0 : Int32) (s1 : Int32) (H : HS) : rn 57 2 [l0] [.int s0, .int s1] H = if s1 < s0 then rn 57 14 [l0] [] H else rn 57 5 [l0] [] H := (rn_ev ..).trans (ev_bif rfl)
theorem x57_5 (l0 : Int32) (H : HS) : rn 57 5 [.int l0] [] H = rn 57 6 [.int l0] [.int l0] H := rn_nx rfl
theorem x57_6 (l0 : Value) (s0 : Int32) (H : HS) : rn 57 6 [l0] [.int s0] H = rn 57 7 [l0] [.int 4, .int s0] H := rn_nx rfl
theorem x57_7 (l0 : Value) (s0 : Int32) (s1 : Int32) (H : HS) : rn 57 7 [l0] [.int s0, .int s1] H = if s0 < s1 then rn 57 14 [l0] [] H else rn 57 10 [l0] [] H := (rn_ev ..).trans (ev_bif rfl)
theorem x57_10 (l0 : Value) (H : HS) : rn 57 10 [l0] [] H = rn 57 11 [l0] [.int 1] H := rn_nx rfl
theorem x57_11 (l0 : Value) (s0 : Int32) (H : HS) : rn 57 11 [l0] [.int s0] H = rn 57 15 [l0] [.int s0] H := rn_nx rfl
theorem x57_15 (l0 : Value) (s0 : Int32) (H : HS) : rn 57 15 [l0] [.int s0] H = if fitp 1 (.int s0) = true then some (.inl (some (.int s0)), H) else none := (rn_ev ..).trans (ev_ret rfl)
theorem x57_14 (l0 : Value) (H : HS) : rn 57 14 [l0] [] H = rn 57 15 [l0] [.int 0] H := rn_nx rfl
theorem c57 (a0 : Int32) (H : HS) : rcal 57 [.int a0] H = rn 57 0 [.int a0] [] H := rfl
theorem x58_0 (l1 l2 l3 l4 l5 : Value) (l0 : Nat) (H : HS) : rn 58 0 [.ref l0, l1, l2, l3, l4, l5] [] H = rn 58 1 [.ref l0, l1, l2, l3, l4, l5] [.ref l0] H := rn_nx rfl
theorem x58_1 (l0 l1 l2 l3 l4 l5 : Value) (s0 : Nat) (H : HS) : rn 58 1 [l0, l1, l2, l3, l4, l5] [.ref s0] H = gk 58 4 [l0, l1, l2, l3, l4, l5] [] H (gfd H 1 4 s0) := (rn_ev ..).trans (ev_gk rfl)
theorem x58_4 (l0 l1 l2 l3 l4 l5 : Value) (s0 : Nat) (H : HS) : rn 58 4 [l0, l1, l2, l3, l4, l5] [.ref s0] H = rn 58 5 [l0, (kl l1), .ref s0, l3, l4, l5] [] H := rn_nx rfl
theorem x58_5 (l0 l1 l3 l4 l5 : Value) (l2 : Nat) (H : HS) : rn 58 5 [l0, l1, .ref l2, l3, l4, l5] [] H = rn 58 6 [l0, l1, .ref l2, l3, l4, l5] [.ref l2] H := rn_nx rfl
theorem x58_6 (l0 l1 l2 l3 l4 l5 : Value) (s0 : Nat) (H : HS) : rn 58 6 [l0, l1, l2, l3, l4, l5] [.ref s0] H = gk 58 7 [l0, l1, l2, l3, l4, l5] [] H (alen H s0) := (rn_ev ..).trans (ev_gk rfl)
theorem x58_7 (l0 l1 l2 l3 l4 l5 : Value) (s0 : Int32) (H : HS) : rn 58 7 [l0, l1, l2, l3, l4, l5] [.int s0] H = rn 58 8 [l0, l1, (kl l2), .int s0, l4, l5] [] H := rn_nx rfl
theorem x58_8 (l0 l1 l2 l3 l4 l5 : Value) (H : HS) : rn 58 8 [l0, l1, l2, l3, l4, l5] [] H = rn 58 9 [l0, l1, l2, l3, l4, l5] [.int 0] H := rn_nx rfl
theorem x58_9 (l0 l1 l2 l3 l4 l5 : Value) (s0 : Int32) (H : HS) : rn 58 9 [l0, l1, l2, l3, l4, l5] [.int s0] H = rn 58 11 [l0, l1, l2, (kl l3), .int s0, l5] [] H := rn_nx rfl
theorem x58_11 (l0 l1 l2 l3 l5 : Value) (l4 : Int32) (H : HS) : rn 58 11 [l0, l1, l2, l3, .int l4, l5] [] H = rn 58 13 [l0, l1, l2, l3, .int l4, l5] [.int l4] H := rn_nx rfl
theorem x58_13 (l0 l1 l2 l4 l5 : Value) (l3 : Int32) (s0 : Int32) (H : HS) : rn 58 13 [l0, l1, l2, .int l3, l4, l5] [.int s0] H = rn 58 14 [l0, l1, l2, .int l3, l4, l5] [.int l3, .int s0] H := rn_nx rfl
theorem x58_14 (l0 l1 l2 l3 l4 l5 : Value) (s0 : Int32) (s1 : Int32) (H : HS) : rn 58 14 [l0, l1, l2, l3, l4, l5] [.int s0, .int s1] H = if s1 < s0 then rn 58 17 [l0, l1, l2, l3, l4, l5] [] H else rn 58 49 [l0, l1, l2, l3, l4, l5] [] H := (rn_ev ..).trans (ev_bin rfl)
theorem x58_17 (l0 l1 l3 l4 l5 : Value) (l2 : Nat) (H : HS) : rn 58 17 [l0, l1, .ref l2, l3, l4, l5] [] H = rn 58 18 [l0, l1, .ref l2, l3, l4, l5] [.ref l2] H := rn_nx rfl
theorem x58_18 (l0 l1 l2 l3 l5 : Value) (l4 : Int32) (s0 : Nat) (H : HS) : rn 58 18 [l0, l1, l2, l3, .int l4, l5] [.ref s0] H = rn 58 20 [l0, l1, l2, l3, .int l4, l5] [.int l4, .ref s0] H := rn_nx rfl
theorem x58_20 (l0 l1 l2 l3 l4 l5 : Value) (s0 : Int32) (s1 : Nat) (H : HS) : rn 58 20 [l0, l1, l2, l3, l4, l5] [.int s0, .ref s1] H = gk 58 21 [l0, l1, l2, l3, l4, l5] [] H (aald H s1 s0) := (rn_ev ..).trans (ev_gk rfl)
theorem x58_21 (l0 l1 l2 l3 l4 l5 : Value) (s0 : Nat) (H : HS) : rn 58 21 [l0, l1, l2, l3, l4, l5] [.ref s0] H = rn 58 23 [l0, l1, l2, l3, (kl l4), .ref s0] [] H := rn_nx rfl
theorem x58_23 (l0 l1 l2 l3 l4 : Value) (l5 : Nat) (H : HS) : rn 58 23 [l0, l1, l2, l3, l4, .ref l5] [] H = rn 58 25 [l0, l1, l2, l3, l4, .ref l5] [.ref l5] H := rn_nx rfl
theorem x58_25 (l0 l1 l2 l3 l4 l5 : Value) (s0 : Nat) (H : HS) (h : recv H s0 2 = true) : rn 58 25 [l0, l1, l2, l3, l4, l5] [.ref s0] H = bnd true 58 25 [l0, l1, l2, l3, l4, l5] [] (rcal 82 [.ref s0] H) := rn_cal (vcal h rfl)
theorem x58_28 (l0 l1 l2 l3 l4 l5 : Value) (s0 : Int32) (H : HS) : rn 58 28 [l0, l1, l2, l3, l4, l5] [.int s0] H = if s0 = 0 then rn 58 43 [l0, l1, l2, l3, l4, l5] [] H else rn 58 31 [l0, l1, l2, l3, l4, l5] [] H := (rn_ev ..).trans (ev_bif rfl)
theorem x58_31 (l0 l1 l2 l3 l4 : Value) (l5 : Nat) (H : HS) : rn 58 31 [l0, l1, l2, l3, l4, .ref l5] [] H = rn 58 33 [l0, l1, l2, l3, l4, .ref l5] [.ref l5] H := rn_nx rfl
theorem x58_33 (l0 l1 l2 l3 l4 l5 : Value) (s0 : Nat) (H : HS) : rn 58 33 [l0, l1, l2, l3, l4, l5] [.ref s0] H = gk 58 36 [l0, l1, l2, l3, l4, l5] [] H (gfd H 2 1 s0) := (rn_ev ..).trans (ev_gk rfl)
theorem x58_36 (l0 l2 l3 l4 l5 : Value) (l1 : Int32) (s0 : Int32) (H : HS) : rn 58 36 [l0, .int l1, l2, l3, l4, l5] [.int s0] H = rn 58 37 [l0, .int l1, l2, l3, l4, l5] [.int l1, .int s0] H := rn_nx rfl
theorem x58_37 (l0 l1 l2 l3 l4 l5 : Value) (s0 : Int32) (s1 : Int32) (H : HS) : rn 58 37 [l0, l1, l2, l3, l4, l5] [.int s0, .int s1] H = if s1 = s0 then rn 58 40 [l0, l1, l2, l3, l4, l5] [] H else rn 58 43 [l0, l1, l2, l3, l4, l5] [] H := (rn_ev ..).trans (ev_bin rfl)
theorem x58_40 (l0 l1 l2 l3 l4 : Value) (l5 : Nat) (H : HS) : rn 58 40 [l0, l1, l2, l3, l4, .ref l5] [] H = rn 58 42 [l0, l1, l2, l3, l4, .ref l5] [.ref l5] H := rn_nx rfl
theorem x58_40n (l0 l1 l2 l3 l4 : Value) (H : HS) : rn 58 40 [l0, l1, l2, l3, l4, .null] [] H = rn 58 42 [l0, l1, l2, l3, l4, .null] [.null] H := rn_nx rfl
theorem x58_42 (l0 l1 l2 l3 l4 l5 : Value) (H : HS) : rn 58 42 [l0, l1, l2, l3, l4, l5] [.null] H = some (.inl (some (.null)), H) := rn_end rfl
theorem x58_42a (l0 l1 l2 l3 l4 l5 : Value) (s0 : Nat) (H : HS) : rn 58 42 [l0, l1, l2, l3, l4, l5] [.ref s0] H = some (.inl (some (.ref s0)), H) := rn_end rfl
theorem x58_43 (l0 l1 l2 l3 l5 : Value) (l4 : Int32) (H : HS) : rn 58 43 [l0, l1, l2, l3, .int l4, l5] [] H = rn 58 46 [l0, l1, l2, (kl l3), .int (l4 + 1), l5] [] H := rn_nx rfl
theorem x58_46 (l0 l1 l2 l3 l4 l5 : Value) (H : HS) : rn 58 46 [l0, l1, l2, l3, l4, l5] [] H = rn 58 11 [l0, l1, l2, l3, l4, l5] [] H := rn_nx rfl
theorem x58_49 (l0 l1 l2 l3 l4 l5 : Value) (H : HS) : rn 58 49 [l0, l1, l2, l3, l4, l5] [] H = rn 58 50 [l0, l1, l2, l3, l4, l5] [.null] H := rn_nx rfl
theorem x58_50 (l0 l1 l2 l3 l4 l5 : Value) (H : HS) : rn 58 50 [l0, l1, l2, l3, l4, l5] [.null] H = some (.inl (some (.null)), H) := rn_end rfl
theorem c58 (a0 : Nat) (a1 : Int32) (H : HS) : rcal 58 [.ref a0, .int a1] H = rn 58 0 [.ref a0, .int a1, un, un, un, un] [] H := rfl
theorem x59_0 (l1 l2 l3 l4 l5 : Value) (l0 : Nat) (H : HS) : rn 59 0 [.ref l0, l1, l2, l3, l4, l5] [] H = rn 59 1 [.ref l0, l1, l2, l3, l4, l5] [.ref l0] H := rn_nx rfl
theorem x59_1 (l0 l1 l2 l3 l4 l5 : Value) (s0 : Nat) (H : HS) : rn 59 1 [l0, l1, l2, l3, l4, l5] [.ref s0] H = gk 59 4 [l0, l1, l2, l3, l4, l5] [] H (gfd H 1 4 s0) := (rn_ev ..).trans (ev_gk rfl)
theorem x59_4 (l0 l1 l2 l3 l4 l5 : Value) (s0 : Nat) (H : HS) : rn 59 4 [l0, l1, l2, l3, l4, l5] [.ref s0] H = rn 59 5 [l0, (kl l1), .ref s0, l3, l4, l5] [] H := rn_nx rfl
theorem x59_5 (l0 l1 l3 l4 l5 : Value) (l2 : Nat) (H : HS) : rn 59 5 [l0, l1, .ref l2, l3, l4, l5] [] H = rn 59 6 [l0, l1, .ref l2, l3, l4, l5] [.ref l2] H := rn_nx rfl
theorem x59_6 (l0 l1 l2 l3 l4 l5 : Value) (s0 : Nat) (H : HS) : rn 59 6 [l0, l1, l2, l3, l4, l5] [.ref s0] H = gk 59 7 [l0, l1, l2, l3, l4, l5] [] H (alen H s0) := (rn_ev ..).trans (ev_gk rfl)
theorem x59_7 (l0 l1 l2 l3 l4 l5 : Value) (s0 : Int32) (H : HS) : rn 59 7 [l0, l1, l2, l3, l4, l5] [.int s0] H = rn 59 8 [l0, l1, (kl l2), .int s0, l4, l5] [] H := rn_nx rfl
theorem x59_8 (l0 l1 l2 l3 l4 l5 : Value) (H : HS) : rn 59 8 [l0, l1, l2, l3, l4, l5] [] H = rn 59 9 [l0, l1, l2, l3, l4, l5] [.int 0] H := rn_nx rfl
theorem x59_9 (l0 l1 l2 l3 l4 l5 : Value) (s0 : Int32) (H : HS) : rn 59 9 [l0, l1, l2, l3, l4, l5] [.int s0] H = rn 59 11 [l0, l1, l2, (kl l3), .int s0, l5] [] H := rn_nx rfl
theorem x59_11 (l0 l1 l2 l3 l5 : Value) (l4 : Int32) (H : HS) : rn 59 11 [l0, l1, l2, l3, .int l4, l5] [] H = rn 59 13 [l0, l1, l2, l3, .int l4, l5] [.int l4] H := rn_nx rfl
theorem x59_13 (l0 l1 l2 l4 l5 : Value) (l3 : Int32) (s0 : Int32) (H : HS) : rn 59 13 [l0, l1, l2, .int l3, l4, l5] [.int s0] H = rn 59 14 [l0, l1, l2, .int l3, l4, l5] [.int l3, .int s0] H := rn_nx rfl
theorem x59_14 (l0 l1 l2 l3 l4 l5 : Value) (s0 : Int32) (s1 : Int32) (H : HS) : rn 59 14 [l0, l1, l2, l3, l4, l5] [.int s0, .int s1] H = if s1 < s0 then rn 59 17 [l0, l1, l2, l3, l4, l5] [] H else rn 59 52 [l0, l1, l2, l3, l4, l5] [] H := (rn_ev ..).trans (ev_bin rfl)
theorem x59_17 (l0 l1 l3 l4 l5 : Value) (l2 : Nat) (H : HS) : rn 59 17 [l0, l1, .ref l2, l3, l4, l5] [] H = rn 59 18 [l0, l1, .ref l2, l3, l4, l5] [.ref l2] H := rn_nx rfl
theorem x59_18 (l0 l1 l2 l3 l5 : Value) (l4 : Int32) (s0 : Nat) (H : HS) : rn 59 18 [l0, l1, l2, l3, .int l4, l5] [.ref s0] H = rn 59 20 [l0, l1, l2, l3, .int l4, l5] [.int l4, .ref s0] H := rn_nx rfl
theorem x59_20 (l0 l1 l2 l3 l4 l5 : Value) (s0 : Int32) (s1 : Nat) (H : HS) : rn 59 20 [l0, l1, l2, l3, l4, l5] [.int s0, .ref s1] H = gk 59 21 [l0, l1, l2, l3, l4, l5] [] H (aald H s1 s0) := (rn_ev ..).trans (ev_gk rfl)
theorem x59_21 (l0 l1 l2 l3 l4 l5 : Value) (s0 : Nat) (H : HS) : rn 59 21 [l0, l1, l2, l3, l4, l5] [.ref s0] H = rn 59 23 [l0, l1, l2, l3, (kl l4), .ref s0] [] H := rn_nx rfl
theorem x59_23 (l0 l1 l2 l3 l4 : Value) (l5 : Nat) (H : HS) : rn 59 23 [l0, l1, l2, l3, l4, .ref l5] [] H = rn 59 25 [l0, l1, l2, l3, l4, .ref l5] [.ref l5] H := rn_nx rfl
theorem x59_25 (l0 l1 l2 l3 l4 l5 : Value) (s0 : Nat) (H : HS) : rn 59 25 [l0, l1, l2, l3, l4, l5] [.ref s0] H = gk 59 28 [l0, l1, l2, l3, l4, l5] [] H (gfd H 2 0 s0) := (rn_ev ..).trans (ev_gk rfl)
theorem x59_28 (l0 l1 l2 l3 l4 l5 : Value) (s0 : Nat) (H : HS) : rn 59 28 [l0, l1, l2, l3, l4, l5] [.ref s0] H = rn 59 31 [l0, l1, l2, l3, l4, l5] [.ref 4, .ref s0] H := rn_nx rfl
theorem x59_31 (l0 l1 l2 l3 l4 l5 : Value) (s0 : Nat) (s1 : Nat) (H : HS) : rn 59 31 [l0, l1, l2, l3, l4, l5] [.ref s0, .ref s1] H = qk 59 34 46 [l0, l1, l2, l3, l4, l5] [] H (req H (.ref s1) (.ref s0)) := (rn_ev ..).trans (ev_qn rfl)
theorem x59_34 (l0 l1 l2 l3 l4 : Value) (l5 : Nat) (H : HS) : rn 59 34 [l0, l1, l2, l3, l4, .ref l5] [] H = rn 59 36 [l0, l1, l2, l3, l4, .ref l5] [.ref l5] H := rn_nx rfl
theorem x59_36 (l0 l1 l2 l3 l4 l5 : Value) (s0 : Nat) (H : HS) : rn 59 36 [l0, l1, l2, l3, l4, l5] [.ref s0] H = gk 59 39 [l0, l1, l2, l3, l4, l5] [] H (gfd H 2 7 s0) := (rn_ev ..).trans (ev_gk rfl)
theorem x59_39 (l0 l2 l3 l4 l5 : Value) (l1 : Int32) (s0 : Int32) (H : HS) : rn 59 39 [l0, .int l1, l2, l3, l4, l5] [.int s0] H = rn 59 40 [l0, .int l1, l2, l3, l4, l5] [.int l1, .int s0] H := rn_nx rfl
theorem x59_40 (l0 l1 l2 l3 l4 l5 : Value) (s0 : Int32) (s1 : Int32) (H : HS) : rn 59 40 [l0, l1, l2, l3, l4, l5] [.int s0, .int s1] H = if s1 = s0 then rn 59 43 [l0, l1, l2, l3, l4, l5] [] H else rn 59 46 [l0, l1, l2, l3, l4, l5] [] H := (rn_ev ..).trans (ev_bin rfl)
theorem x59_43 (l0 l1 l2 l3 l4 : Value) (l5 : Nat) (H : HS) : rn 59 43 [l0, l1, l2, l3, l4, .ref l5] [] H = rn 59 45 [l0, l1, l2, l3, l4, .ref l5] [.ref l5] H := rn_nx rfl
theorem x59_43n (l0 l1 l2 l3 l4 : Value) (H : HS) : rn 59 43 [l0, l1, l2, l3, l4, .null] [] H = rn 59 45 [l0, l1, l2, l3, l4, .null] [.null] H := rn_nx rfl
theorem x59_45 (l0 l1 l2 l3 l4 l5 : Value) (H : HS) : rn 59 45 [l0, l1, l2, l3, l4, l5] [.null] H = some (.inl (some (.null)), H) := rn_end rfl
theorem x59_45a (l0 l1 l2 l3 l4 l5 : Value) (s0 : Nat) (H : HS) : rn 59 45 [l0, l1, l2, l3, l4, l5] [.ref s0] H = some (.inl (some (.ref s0)), H) := rn_end rfl
theorem x59_46 (l0 l1 l2 l3 l5 : Value) (l4 : Int32) (H : HS) : rn 59 46 [l0, l1, l2, l3, .int l4, l5] [] H = rn 59 49 [l0, l1, l2, (kl l3), .int (l4 + 1), l5] [] H := rn_nx rfl
theorem x59_49 (l0 l1 l2 l3 l4 l5 : Value) (H : HS) : rn 59 49 [l0, l1, l2, l3, l4, l5] [] H = rn 59 11 [l0, l1, l2, l3, l4, l5] [] H := rn_nx rfl
theorem x59_52 (l0 l1 l2 l3 l4 l5 : Value) (H : HS) : rn 59 52 [l0, l1, l2, l3, l4, l5] [] H = rn 59 53 [l0, l1, l2, l3, l4, l5] [.null] H := rn_nx rfl
theorem x59_53 (l0 l1 l2 l3 l4 l5 : Value) (H : HS) : rn 59 53 [l0, l1, l2, l3, l4, l5] [.null] H = some (.inl (some (.null)), H) := rn_end rfl
theorem c59 (a0 : Nat) (a1 : Int32) (H : HS) : rcal 59 [.ref a0, .int a1] H = rn 59 0 [.ref a0, .int a1, un, un, un, un] [] H := rfl
theorem x60_0 (l0 l2 l3 l4 l5 l6 l7 l8 : Value) (l1 : Int32) (H : HS) : rn 60 0 [l0, .int l1, l2, l3, l4, l5, l6, l7, l8] [] H = rn 60 1 [l0, .int l1, l2, l3, l4, l5, l6, l7, l8] [.int l1] H := rn_nx rfl
theorem x60_1 (l0 l1 l2 l3 l4 l5 l6 l7 l8 : Value) (s0 : Int32) (H : HS) : rn 60 1 [l0, l1, l2, l3, l4, l5, l6, l7, l8] [.int s0] H = if s0 < 0 then rn 60 12 [l0, l1, l2, l3, l4, l5, l6, l7, l8] [] H else rn 60 4 [l0, l1, l2, l3, l4, l5, l6, l7, l8] [] H := (rn_ev ..).trans (ev_bif rfl)
theorem x60_4 (l0 l2 l3 l4 l5 l6 l7 l8 : Value) (l1 : Int32) (H : HS) : rn 60 4 [l0, .int l1, l2, l3, l4, l5, l6, l7, l8] [] H = rn 60 5 [l0, .int l1, l2, l3, l4, l5, l6, l7, l8] [.int l1] H := rn_nx rfl
theorem x60_5 (l1 l2 l3 l4 l5 l6 l7 l8 : Value) (l0 : Nat) (s0 : Int32) (H : HS) : rn 60 5 [.ref l0, l1, l2, l3, l4, l5, l6, l7, l8] [.int s0] H = rn 60 6 [.ref l0, l1, l2, l3, l4, l5, l6, l7, l8] [.ref l0, .int s0] H := rn_nx rfl
theorem x60_6 (l0 l1 l2 l3 l4 l5 l6 l7 l8 : Value) (s0 : Nat) (s1 : Int32) (H : HS) : rn 60 6 [l0, l1, l2, l3, l4, l5, l6, l7, l8] [.ref s0, .int s1] H = gk 60 9 [l0, l1, l2, l3, l4, l5, l6, l7, l8] [.int s1] H (gfd H 1 0 s0) := (rn_ev ..).trans (ev_gk rfl)
theorem x60_9 (l0 l1 l2 l3 l4 l5 l6 l7 l8 : Value) (s0 : Int32) (s1 : Int32) (H : HS) : rn 60 9 [l0, l1, l2, l3, l4, l5, l6, l7, l8] [.int s0, .int s1] H = if s1 < s0 then rn 60 14 [l0, l1, l2, l3, l4, l5, l6, l7, l8] [] H else rn 60 12 [l0, l1, l2, l3, l4, l5, l6, l7, l8] [] H := (rn_ev ..).trans (ev_bif rfl)
theorem x60_12 (l0 l1 l2 l3 l4 l5 l6 l7 l8 : Value) (H : HS) : rn 60 12 [l0, l1, l2, l3, l4, l5, l6, l7, l8] [] H = rn 60 13 [l0, l1, l2, l3, l4, l5, l6, l7, l8] [.int 0] H := rn_nx rfl
theorem x60_13 (l0 l1 l2 l3 l4 l5 l6 l7 l8 : Value) (s0 : Int32) (H : HS) : rn 60 13 [l0, l1, l2, l3, l4, l5, l6, l7, l8] [.int s0] H = some (.inl (some (.int s0)), H) := rn_end rfl
theorem x60_14 (l1 l2 l3 l4 l5 l6 l7 l8 : Value) (l0 : Nat) (H : HS) : rn 60 14 [.ref l0, l1, l2, l3, l4, l5, l6, l7, l8] [] H = rn 60 15 [.ref l0, l1, l2, l3, l4, l5, l6, l7, l8] [.ref l0] H := rn_nx rfl
theorem x60_15 (l0 l1 l2 l3 l4 l5 l6 l7 l8 : Value) (s0 : Nat) (H : HS) : rn 60 15 [l0, l1, l2, l3, l4, l5, l6, l7, l8] [.ref s0] H = gk 60 18 [l0, l1, l2, l3, l4, l5, l6, l7, l8] [] H (gfd H 1 1 s0) := (rn_ev ..).trans (ev_gk rfl)
theorem x60_18 (l0 l2 l3 l4 l5 l6 l7 l8 : Value) (l1 : Int32) (s0 : Nat) (H : HS) : rn 60 18 [l0, .int l1, l2, l3, l4, l5, l6, l7, l8] [.ref s0] H = rn 60 19 [l0, .int l1, l2, l3, l4, l5, l6, l7, l8] [.int l1, .ref s0] H := rn_nx rfl
theorem x60_19 (l0 l1 l2 l3 l4 l5 l6 l7 l8 : Value) (s0 : Int32) (s1 : Nat) (H : HS) : rn 60 19 [l0, l1, l2, l3, l4, l5, l6, l7, l8] [.int s0, .ref s1] H = gk 60 20 [l0, l1, l2, l3, l4, l5, l6, l7, l8] [] H (ald H 100 s1 s0) := (rn_ev ..).trans (ev_gk rfl)
theorem x60_20 (l0 l1 l2 l3 l4 l5 l6 l7 l8 : Value) (s0 : Int32) (H : HS) : rn 60 20 [l0, l1, l2, l3, l4, l5, l6, l7, l8] [.int s0] H = rn 60 21 [l0, (kl l1), .int s0, l3, l4, l5, l6, l7, l8] [] H := rn_nx rfl
theorem x60_21 (l1 l2 l3 l4 l5 l6 l7 l8 : Value) (l0 : Nat) (H : HS) : rn 60 21 [.ref l0, l1, l2, l3, l4, l5, l6, l7, l8] [] H = rn 60 22 [.ref l0, l1, l2, l3, l4, l5, l6, l7, l8] [.ref l0] H := rn_nx rfl
theorem x60_22 (l0 l1 l2 l3 l4 l5 l6 l7 l8 : Value) (s0 : Nat) (H : HS) : rn 60 22 [l0, l1, l2, l3, l4, l5, l6, l7, l8] [.ref s0] H = gk 60 25 [l0, l1, l2, l3, l4, l5, l6, l7, l8] [] H (gfd H 1 4 s0) := (rn_ev ..).trans (ev_gk rfl)
theorem x60_25 (l0 l1 l2 l3 l4 l5 l6 l7 l8 : Value) (s0 : Nat) (H : HS) : rn 60 25 [l0, l1, l2, l3, l4, l5, l6, l7, l8] [.ref s0] H = rn 60 26 [l0, l1, (kl l2), .ref s0, l4, l5, l6, l7, l8] [] H := rn_nx rfl
theorem x60_26 (l0 l1 l2 l4 l5 l6 l7 l8 : Value) (l3 : Nat) (H : HS) : rn 60 26 [l0, l1, l2, .ref l3, l4, l5, l6, l7, l8] [] H = rn 60 27 [l0, l1, l2, .ref l3, l4, l5, l6, l7, l8] [.ref l3] H := rn_nx rfl
theorem x60_27 (l0 l1 l2 l3 l4 l5 l6 l7 l8 : Value) (s0 : Nat) (H : HS) : rn 60 27 [l0, l1, l2, l3, l4, l5, l6, l7, l8] [.ref s0] H = gk 60 28 [l0, l1, l2, l3, l4, l5, l6, l7, l8] [] H (alen H s0) := (rn_ev ..).trans (ev_gk rfl)
theorem x60_28 (l0 l1 l2 l3 l4 l5 l6 l7 l8 : Value) (s0 : Int32) (H : HS) : rn 60 28 [l0, l1, l2, l3, l4, l5, l6, l7, l8] [.int s0] H = rn 60 30 [l0, l1, l2, (kl l3), .int s0, l5, l6, l7, l8] [] H := rn_nx rfl
theorem x60_30 (l0 l1 l2 l3 l4 l5 l6 l7 l8 : Value) (H : HS) : rn 60 30 [l0, l1, l2, l3, l4, l5, l6, l7, l8] [] H = rn 60 31 [l0, l1, l2, l3, l4, l5, l6, l7, l8] [.int 0] H := rn_nx rfl
theorem x60_31 (l0 l1 l2 l3 l4 l5 l6 l7 l8 : Value) (s0 : Int32) (H : HS) : rn 60 31 [l0, l1, l2, l3, l4, l5, l6, l7, l8] [.int s0] H = rn 60 33 [l0, l1, l2, l3, (kl l4), .int s0, l6, l7, l8] [] H := rn_nx rfl
theorem x60_33 (l0 l1 l2 l3 l4 l6 l7 l8 : Value) (l5 : Int32) (H : HS) : rn 60 33 [l0, l1, l2, l3, l4, .int l5, l6, l7, l8] [] H = rn 60 35 [l0, l1, l2, l3, l4, .int l5, l6, l7, l8] [.int l5] H := rn_nx rfl
theorem x60_35 (l0 l1 l2 l3 l5 l6 l7 l8 : Value) (l4 : Int32) (s0 : Int32) (H : HS) : rn 60 35 [l0, l1, l2, l3, .int l4, l5, l6, l7, l8] [.int s0] H = rn 60 37 [l0, l1, l2, l3, .int l4, l5, l6, l7, l8] [.int l4, .int s0] H := rn_nx rfl
theorem x60_37 (l0 l1 l2 l3 l4 l5 l6 l7 l8 : Value) (s0 : Int32) (s1 : Int32) (H : HS) : rn 60 37 [l0, l1, l2, l3, l4, l5, l6, l7, l8] [.int s0, .int s1] H = if s1 < s0 then rn 60 40 [l0, l1, l2, l3, l4, l5, l6, l7, l8] [] H else rn 60 119 [l0, l1, l2, l3, l4, l5, l6, l7, l8] [] H := (rn_ev ..).trans (ev_bin rfl)
theorem x60_40 (l0 l1 l2 l4 l5 l6 l7 l8 : Value) (l3 : Nat) (H : HS) : rn 60 40 [l0, l1, l2, .ref l3, l4, l5, l6, l7, l8] [] H = rn 60 41 [l0, l1, l2, .ref l3, l4, l5, l6, l7, l8] [.ref l3] H := rn_nx rfl
theorem x60_41 (l0 l1 l2 l3 l4 l6 l7 l8 : Value) (l5 : Int32) (s0 : Nat) (H : HS) : rn 60 41 [l0, l1, l2, l3, l4, .int l5, l6, l7, l8] [.ref s0] H = rn 60 43 [l0, l1, l2, l3, l4, .int l5, l6, l7, l8] [.int l5, .ref s0] H := rn_nx rfl
theorem x60_43 (l0 l1 l2 l3 l4 l5 l6 l7 l8 : Value) (s0 : Int32) (s1 : Nat) (H : HS) : rn 60 43 [l0, l1, l2, l3, l4, l5, l6, l7, l8] [.int s0, .ref s1] H = gk 60 44 [l0, l1, l2, l3, l4, l5, l6, l7, l8] [] H (aald H s1 s0) := (rn_ev ..).trans (ev_gk rfl)
theorem x60_44 (l0 l1 l2 l3 l4 l5 l6 l7 l8 : Value) (s0 : Nat) (H : HS) : rn 60 44 [l0, l1, l2, l3, l4, l5, l6, l7, l8] [.ref s0] H = rn 60 46 [l0, l1, l2, l3, l4, (kl l5), .ref s0, l7, l8] [] H := rn_nx rfl
theorem x60_46 (l0 l1 l2 l3 l4 l5 l7 l8 : Value) (l6 : Nat) (H : HS) : rn 60 46 [l0, l1, l2, l3, l4, l5, .ref l6, l7, l8] [] H = rn 60 48 [l0, l1, l2, l3, l4, l5, .ref l6, l7, l8] [.ref l6] H := rn_nx rfl
theorem x60_48 (l0 l1 l2 l3 l4 l5 l6 l7 l8 : Value) (s0 : Nat) (H : HS) : rn 60 48 [l0, l1, l2, l3, l4, l5, l6, l7, l8] [.ref s0] H = gk 60 51 [l0, l1, l2, l3, l4, l5, l6, l7, l8] [] H (gfd H 2 0 s0) := (rn_ev ..).trans (ev_gk rfl)
theorem x60_51 (l0 l1 l2 l3 l4 l5 l6 l7 l8 : Value) (s0 : Nat) (H : HS) : rn 60 51 [l0, l1, l2, l3, l4, l5, l6, l7, l8] [.ref s0] H = rn 60 54 [l0, l1, l2, l3, l4, l5, l6, l7, l8] [.ref 3, .ref s0] H := rn_nx rfl
theorem x60_54 (l0 l1 l2 l3 l4 l5 l6 l7 l8 : Value) (s0 : Nat) (s1 : Nat) (H : HS) : rn 60 54 [l0, l1, l2, l3, l4, l5, l6, l7, l8] [.ref s0, .ref s1] H = qk 60 57 61 [l0, l1, l2, l3, l4, l5, l6, l7, l8] [] H (req H (.ref s1) (.ref s0)) := (rn_ev ..).trans (ev_qn rfl)
theorem x60_57 (l0 l1 l2 l3 l4 l5 l6 l7 l8 : Value) (H : HS) : rn 60 57 [l0, l1, l2, l3, l4, l5, l6, l7, l8] [] H = rn 60 58 [l0, l1, l2, l3, l4, l5, l6, l7, l8] [.int 1] H := rn_nx rfl
theorem x60_58 (l0 l1 l2 l3 l4 l5 l6 l7 l8 : Value) (s0 : Int32) (H : HS) : rn 60 58 [l0, l1, l2, l3, l4, l5, l6, l7, l8] [.int s0] H = rn 60 62 [l0, l1, l2, l3, l4, l5, l6, l7, l8] [.int s0] H := rn_nx rfl
theorem x60_62 (l0 l1 l2 l3 l4 l5 l6 l7 l8 : Value) (s0 : Int32) (H : HS) : rn 60 62 [l0, l1, l2, l3, l4, l5, l6, l7, l8] [.int s0] H = rn 60 64 [l0, l1, l2, l3, l4, l5, (kl l6), .int s0, l8] [] H := rn_nx rfl
theorem x60_64 (l0 l1 l2 l3 l4 l5 l7 l8 : Value) (l6 : Nat) (H : HS) : rn 60 64 [l0, l1, l2, l3, l4, l5, .ref l6, l7, l8] [] H = rn 60 66 [l0, l1, l2, l3, l4, l5, .ref l6, l7, l8] [.ref l6] H := rn_nx rfl
theorem x60_66 (l0 l1 l2 l3 l4 l5 l6 l7 l8 : Value) (s0 : Nat) (H : HS) : rn 60 66 [l0, l1, l2, l3, l4, l5, l6, l7, l8] [.ref s0] H = gk 60 69 [l0, l1, l2, l3, l4, l5, l6, l7, l8] [] H (gfd H 2 0 s0) := (rn_ev ..).trans (ev_gk rfl)
theorem x60_69 (l0 l1 l2 l3 l4 l5 l6 l7 l8 : Value) (s0 : Nat) (H : HS) : rn 60 69 [l0, l1, l2, l3, l4, l5, l6, l7, l8] [.ref s0] H = rn 60 72 [l0, l1, l2, l3, l4, l5, l6, l7, l8] [.ref 4, .ref s0] H := rn_nx rfl
theorem x60_72 (l0 l1 l2 l3 l4 l5 l6 l7 l8 : Value) (s0 : Nat) (s1 : Nat) (H : HS) : rn 60 72 [l0, l1, l2, l3, l4, l5, l6, l7, l8] [.ref s0, .ref s1] H = qk 60 75 88 [l0, l1, l2, l3, l4, l5, l6, l7, l8] [] H (req H (.ref s1) (.ref s0)) := (rn_ev ..).trans (ev_qn rfl)
theorem x60_75 (l0 l1 l2 l3 l4 l5 l7 l8 : Value) (l6 : Nat) (H : HS) : rn 60 75 [l0, l1, l2, l3, l4, l5, .ref l6, l7, l8] [] H = rn 60 77 [l0, l1, l2, l3, l4, l5, .ref l6, l7, l8] [.ref l6] H := rn_nx rfl
theorem x60_77 (l0 l1 l2 l3 l4 l5 l6 l7 l8 : Value) (s0 : Nat) (H : HS) : rn 60 77 [l0, l1, l2, l3, l4, l5, l6, l7, l8] [.ref s0] H = gk 60 80 [l0, l1, l2, l3, l4, l5, l6, l7, l8] [] H (gfd H 2 3 s0) := (rn_ev ..).trans (ev_gk rfl)
theorem x60_80 (l0 l2 l3 l4 l5 l6 l7 l8 : Value) (l1 : Int32) (s0 : Int32) (H : HS) : rn 60 80 [l0, .int l1, l2, l3, l4, l5, l6, l7, l8] [.int s0] H = rn 60 81 [l0, .int l1, l2, l3, l4, l5, l6, l7, l8] [.int l1, .int s0] H := rn_nx rfl
theorem x60_81 (l0 l1 l2 l3 l4 l5 l6 l7 l8 : Value) (s0 : Int32) (s1 : Int32) (H : HS) : rn 60 81 [l0, l1, l2, l3, l4, l5, l6, l7, l8] [.int s0, .int s1] H = if s1 = s0 then rn 60 88 [l0, l1, l2, l3, l4, l5, l6, l7, l8] [] H else rn 60 84 [l0, l1, l2, l3, l4, l5, l6, l7, l8] [] H := (rn_ev ..).trans (ev_bif rfl)
theorem x60_84 (l0 l1 l2 l3 l4 l5 l6 l7 l8 : Value) (H : HS) : rn 60 84 [l0, l1, l2, l3, l4, l5, l6, l7, l8] [] H = rn 60 85 [l0, l1, l2, l3, l4, l5, l6, l7, l8] [.int 1] H := rn_nx rfl
theorem x60_85 (l0 l1 l2 l3 l4 l5 l6 l7 l8 : Value) (s0 : Int32) (H : HS) : rn 60 85 [l0, l1, l2, l3, l4, l5, l6, l7, l8] [.int s0] H = rn 60 89 [l0, l1, l2, l3, l4, l5, l6, l7, l8] [.int s0] H := rn_nx rfl
theorem x60_89 (l0 l1 l2 l3 l4 l5 l6 l7 l8 : Value) (s0 : Int32) (H : HS) : rn 60 89 [l0, l1, l2, l3, l4, l5, l6, l7, l8] [.int s0] H = rn 60 91 [l0, l1, l2, l3, l4, l5, l6, (kl l7), .int s0] [] H := rn_nx rfl
theorem x60_91 (l0 l1 l2 l3 l4 l5 l7 l8 : Value) (l6 : Nat) (H : HS) : rn 60 91 [l0, l1, l2, l3, l4, l5, .ref l6, l7, l8] [] H = rn 60 93 [l0, l1, l2, l3, l4, l5, .ref l6, l7, l8] [.ref l6] H := rn_nx rfl
theorem x60_93 (l0 l1 l2 l3 l4 l5 l6 l7 l8 : Value) (s0 : Nat) (H : HS) : rn 60 93 [l0, l1, l2, l3, l4, l5, l6, l7, l8] [.ref s0] H = gk 60 96 [l0, l1, l2, l3, l4, l5, l6, l7, l8] [] H (gfd H 2 6 s0) := (rn_ev ..).trans (ev_gk rfl)
theorem x60_96 (l0 l2 l3 l4 l5 l6 l7 l8 : Value) (l1 : Int32) (s0 : Int32) (H : HS) : rn 60 96 [l0, .int l1, l2, l3, l4, l5, l6, l7, l8] [.int s0] H = rn 60 97 [l0, .int l1, l2, l3, l4, l5, l6, l7, l8] [.int l1, .int s0] H := rn_nx rfl
theorem x60_97 (l0 l1 l2 l3 l4 l5 l6 l7 l8 : Value) (s0 : Int32) (s1 : Int32) (H : HS) : rn 60 97 [l0, l1, l2, l3, l4, l5, l6, l7, l8] [.int s0, .int s1] H = if s1 = s0 then rn 60 100 [l0, l1, l2, l3, l4, l5, l6, l7, l8] [] H else rn 60 113 [l0, l1, l2, l3, l4, l5, l6, l7, l8] [] H := (rn_ev ..).trans (ev_bin rfl)
theorem x60_100 (l0 l1 l2 l3 l4 l5 l6 l8 : Value) (l7 : Int32) (H : HS) : rn 60 100 [l0, l1, l2, l3, l4, l5, l6, .int l7, l8] [] H = rn 60 102 [l0, l1, l2, l3, l4, l5, l6, .int l7, l8] [.int l7] H := rn_nx rfl
theorem x60_102 (l0 l1 l2 l3 l4 l5 l6 l7 l8 : Value) (s0 : Int32) (H : HS) : rn 60 102 [l0, l1, l2, l3, l4, l5, l6, l7, l8] [.int s0] H = if s0 = 0 then rn 60 105 [l0, l1, l2, l3, l4, l5, l6, l7, l8] [] H else rn 60 110 [l0, l1, l2, l3, l4, l5, l6, l7, l8] [] H := (rn_ev ..).trans (ev_bin rfl)
theorem x60_105 (l0 l1 l2 l3 l4 l5 l6 l7 : Value) (l8 : Int32) (H : HS) : rn 60 105 [l0, l1, l2, l3, l4, l5, l6, l7, .int l8] [] H = rn 60 107 [l0, l1, l2, l3, l4, l5, l6, l7, .int l8] [.int l8] H := rn_nx rfl
theorem x60_107 (l0 l1 l2 l3 l4 l5 l6 l7 l8 : Value) (s0 : Int32) (H : HS) : rn 60 107 [l0, l1, l2, l3, l4, l5, l6, l7, l8] [.int s0] H = if s0 = 0 then rn 60 113 [l0, l1, l2, l3, l4, l5, l6, l7, l8] [] H else rn 60 110 [l0, l1, l2, l3, l4, l5, l6, l7, l8] [] H := (rn_ev ..).trans (ev_bif rfl)
theorem x60_110 (l0 l1 l3 l4 l5 l6 l7 l8 : Value) (l2 : Int32) (H : HS) : rn 60 110 [l0, l1, .int l2, l3, l4, l5, l6, l7, l8] [] H = rn 60 113 [l0, (kl l1), .int (l2 + (-1)), l3, l4, l5, l6, l7, l8] [] H := rn_nx rfl
theorem x60_113 (l0 l1 l2 l3 l4 l6 l7 l8 : Value) (l5 : Int32) (H : HS) : rn 60 113 [l0, l1, l2, l3, l4, .int l5, l6, l7, l8] [] H = rn 60 116 [l0, l1, l2, l3, (kl l4), .int (l5 + 1), l6, l7, l8] [] H := rn_nx rfl
theorem x60_116 (l0 l1 l2 l3 l4 l5 l6 l7 l8 : Value) (H : HS) : rn 60 116 [l0, l1, l2, l3, l4, l5, l6, l7, l8] [] H = rn 60 33 [l0, l1, l2, l3, l4, l5, l6, l7, l8] [] H := rn_nx rfl
theorem x60_88 (l0 l1 l2 l3 l4 l5 l6 l7 l8 : Value) (H : HS) : rn 60 88 [l0, l1, l2, l3, l4, l5, l6, l7, l8] [] H = rn 60 89 [l0, l1, l2, l3, l4, l5, l6, l7, l8] [.int 0] H := rn_nx rfl
theorem x60_61 (l0 l1 l2 l3 l4 l5 l6 l7 l8 : Value) (H : HS) : rn 60 61 [l0, l1, l2, l3, l4, l5, l6, l7, l8] [] H = rn 60 62 [l0, l1, l2, l3, l4, l5, l6, l7, l8] [.int 0] H := rn_nx rfl
theorem x60_119 (l0 l1 l3 l4 l5 l6 l7 l8 : Value) (l2 : Int32) (H : HS) : rn 60 119 [l0, l1, .int l2, l3, l4, l5, l6, l7, l8] [] H = rn 60 120 [l0, l1, .int l2, l3, l4, l5, l6, l7, l8] [.int l2] H := rn_nx rfl
theorem x60_120 (l0 l1 l2 l3 l4 l5 l6 l7 l8 : Value) (s0 : Int32) (H : HS) : rn 60 120 [l0, l1, l2, l3, l4, l5, l6, l7, l8] [.int s0] H = some (.inl (some (.int s0)), H) := rn_end rfl
theorem c60 (a0 : Nat) (a1 : Int32) (H : HS) : rcal 60 [.ref a0, .int a1] H = rn 60 0 [.ref a0, .int a1, un, un, un, un, un, un, un] [] H := rfl
theorem x61_0 (l0 l1 l2 l3 l4 : Value) (H : HS) : rn 61 0 [l0, l1, l2, l3, l4] [] H = rn 61 1 [l0, l1, l2, l3, l4] [.int 0] H := rn_nx rfl
theorem x61_1 (l0 l1 l2 l3 l4 : Value) (s0 : Int32) (H : HS) : rn 61 1 [l0, l1, l2, l3, l4] [.int s0] H = rn 61 2 [l0, l1, (kl l2), .int s0, l4] [] H := rn_nx rfl
theorem x61_2 (l0 l2 l3 l4 : Value) (l1 : Int32) (H : HS) : rn 61 2 [l0, .int l1, l2, l3, l4] [] H = rn 61 3 [l0, .int l1, l2, l3, l4] [.int l1] H := rn_nx rfl
theorem x61_3 (l0 l1 l3 l4 : Value) (l2 : Int32) (s0 : Int32) (H : HS) : rn 61 3 [l0, l1, .int l2, l3, l4] [.int s0] H = rn 61 4 [l0, l1, .int l2, l3, l4] [.int l2, .int s0] H := rn_nx rfl
theorem x61_4 (l0 l1 l2 l3 l4 : Value) (s0 : Int32) (s1 : Int32) (H : HS) : rn 61 4 [l0, l1, l2, l3, l4] [.int s0, .int s1] H = rn 61 7 [l0, l1, l2, l3, l4] [.int (if s0 < s1 then s0 else s1)] H := rn_nx rfl
theorem x61_7 (l0 l1 l2 l3 l4 : Value) (s0 : Int32) (H : HS) : rn 61 7 [l0, l1, l2, l3, l4] [.int s0] H = rn 61 9 [l0, l1, l2, (kl l3), .int s0] [] H := rn_nx rfl
theorem x61_9 (l0 l1 l2 l3 : Value) (l4 : Int32) (H : HS) : rn 61 9 [l0, l1, l2, l3, .int l4] [] H = rn 61 11 [l0, l1, l2, l3, .int l4] [.int l4] H := rn_nx rfl
theorem x61_11 (l0 l2 l3 l4 : Value) (l1 : Int32) (s0 : Int32) (H : HS) : rn 61 11 [l0, .int l1, l2, l3, l4] [.int s0] H = rn 61 12 [l0, .int l1, l2, l3, l4] [.int l1, .int s0] H := rn_nx rfl
theorem x61_12 (l0 l1 l3 l4 : Value) (l2 : Int32) (s0 : Int32) (s1 : Int32) (H : HS) : rn 61 12 [l0, l1, .int l2, l3, l4] [.int s0, .int s1] H = rn 61 13 [l0, l1, .int l2, l3, l4] [.int l2, .int s0, .int s1] H := rn_nx rfl
theorem x61_13 (l0 l1 l2 l3 l4 : Value) (s0 : Int32) (s1 : Int32) (s2 : Int32) (H : HS) : rn 61 13 [l0, l1, l2, l3, l4] [.int s0, .int s1, .int s2] H = rn 61 16 [l0, l1, l2, l3, l4] [.int (if s1 < s0 then s0 else s1), .int s2] H := rn_nx rfl
theorem x61_16 (l0 l1 l2 l3 l4 : Value) (s0 : Int32) (s1 : Int32) (H : HS) : rn 61 16 [l0, l1, l2, l3, l4] [.int s0, .int s1] H = if s1 < s0 then rn 61 19 [l0, l1, l2, l3, l4] [] H else rn 61 44 [l0, l1, l2, l3, l4] [] H := (rn_ev ..).trans (ev_bin rfl)
theorem x61_19 (l1 l2 l3 l4 : Value) (l0 : Nat) (H : HS) : rn 61 19 [.ref l0, l1, l2, l3, l4] [] H = rn 61 20 [.ref l0, l1, l2, l3, l4] [.ref l0] H := rn_nx rfl
theorem x61_20 (l0 l1 l2 l3 : Value) (l4 : Int32) (s0 : Nat) (H : HS) : rn 61 20 [l0, l1, l2, l3, .int l4] [.ref s0] H = rn 61 22 [l0, l1, l2, l3, .int l4] [.int l4, .ref s0] H := rn_nx rfl
theorem x61_22 (l0 l1 l2 l3 l4 : Value) (s0 : Int32) (s1 : Nat) (H : HS) (h : recv H s1 1 = true) : rn 61 22 [l0, l1, l2, l3, l4] [.int s0, .ref s1] H = bnd true 61 22 [l0, l1, l2, l3, l4] [] (rcal 56 [.ref s1, .int s0] H) := rn_cal (vcal h rfl)
theorem x61_25 (l0 l1 l2 l3 l4 : Value) (s0 : Int32) (H : HS) : rn 61 25 [l0, l1, l2, l3, l4] [.int s0] H = if s0 = 0 then rn 61 38 [l0, l1, l2, l3, l4] [] H else rn 61 28 [l0, l1, l2, l3, l4] [] H := (rn_ev ..).trans (ev_bif rfl)
theorem x61_28 (l0 l1 l2 l4 : Value) (l3 : Int32) (H : HS) : rn 61 28 [l0, l1, l2, .int l3, l4] [] H = rn 61 29 [l0, l1, l2, .int l3, l4] [.int l3] H := rn_nx rfl
theorem x61_29 (l1 l2 l3 l4 : Value) (l0 : Nat) (s0 : Int32) (H : HS) : rn 61 29 [.ref l0, l1, l2, l3, l4] [.int s0] H = rn 61 30 [.ref l0, l1, l2, l3, l4] [.ref l0, .int s0] H := rn_nx rfl
theorem x61_30 (l0 l1 l2 l3 l4 : Value) (s0 : Nat) (s1 : Int32) (H : HS) : rn 61 30 [l0, l1, l2, l3, l4] [.ref s0, .int s1] H = gk 61 33 [l0, l1, l2, l3, l4] [.int s1] H (gfd H 1 2 s0) := (rn_ev ..).trans (ev_gk rfl)
theorem x61_33 (l0 l1 l2 l3 : Value) (l4 : Int32) (s0 : Nat) (s1 : Int32) (H : HS) : rn 61 33 [l0, l1, l2, l3, .int l4] [.ref s0, .int s1] H = rn 61 35 [l0, l1, l2, l3, .int l4] [.int l4, .ref s0, .int s1] H := rn_nx rfl
theorem x61_35 (l0 l1 l2 l3 l4 : Value) (s0 : Int32) (s1 : Nat) (s2 : Int32) (H : HS) : rn 61 35 [l0, l1, l2, l3, l4] [.int s0, .ref s1, .int s2] H = gk 61 36 [l0, l1, l2, l3, l4] [.int s2] H (ald H 100 s1 s0) := (rn_ev ..).trans (ev_gk rfl)
theorem x61_36 (l0 l1 l2 l3 l4 : Value) (s0 : Int32) (s1 : Int32) (H : HS) : rn 61 36 [l0, l1, l2, l3, l4] [.int s0, .int s1] H = rn 61 37 [l0, l1, l2, l3, l4] [.int (s1 + s0)] H := rn_nx rfl
theorem x61_37 (l0 l1 l2 l3 l4 : Value) (s0 : Int32) (H : HS) : rn 61 37 [l0, l1, l2, l3, l4] [.int s0] H = rn 61 38 [l0, l1, (kl l2), .int s0, l4] [] H := rn_nx rfl
theorem x61_38 (l0 l1 l2 l3 : Value) (l4 : Int32) (H : HS) : rn 61 38 [l0, l1, l2, l3, .int l4] [] H = rn 61 41 [l0, l1, l2, (kl l3), .int (l4 + 1)] [] H := rn_nx rfl
theorem x61_41 (l0 l1 l2 l3 l4 : Value) (H : HS) : rn 61 41 [l0, l1, l2, l3, l4] [] H = rn 61 9 [l0, l1, l2, l3, l4] [] H := rn_nx rfl
theorem x61_44 (l0 l1 l2 l4 : Value) (l3 : Int32) (H : HS) : rn 61 44 [l0, l1, l2, .int l3, l4] [] H = rn 61 45 [l0, l1, l2, .int l3, l4] [.int l3] H := rn_nx rfl
theorem x61_45 (l0 l1 l2 l3 l4 : Value) (s0 : Int32) (H : HS) : rn 61 45 [l0, l1, l2, l3, l4] [.int s0] H = some (.inl (some (.int s0)), H) := rn_end rfl
theorem c61 (a0 : Nat) (a1 : Int32) (a2 : Int32) (H : HS) : rcal 61 [.ref a0, .int a1, .int a2] H = rn 61 0 [.ref a0, .int a1, .int a2, un, un] [] H := rfl
theorem x62_0 (l1 l2 : Value) (l0 : Nat) (H : HS) : rn 62 0 [.ref l0, l1, l2] [] H = rn 62 1 [.ref l0, l1, l2] [.ref l0] H := rn_nx rfl
theorem x62_1 (l0 l2 : Value) (l1 : Int32) (s0 : Nat) (H : HS) : rn 62 1 [l0, .int l1, l2] [.ref s0] H = rn 62 2 [l0, .int l1, l2] [.int l1, .ref s0] H := rn_nx rfl
theorem x62_2 (l0 l1 l2 : Value) (s0 : Int32) (s1 : Nat) (H : HS) (h : recv H s1 1 = true) : rn 62 2 [l0, l1, l2] [.int s0, .ref s1] H = bnd true 62 2 [l0, l1, l2] [] (rcal 55 [.ref s1, .int s0] H) := rn_cal (vcal h rfl)
theorem x62_5 (l0 l1 l2 : Value) (s0 : Int32) (H : HS) : rn 62 5 [l0, l1, l2] [.int s0] H = if s0 = 0 then rn 62 16 [l0, l1, l2] [] H else rn 62 8 [l0, l1, l2] [] H := (rn_ev ..).trans (ev_bif rfl)
theorem x62_8 (l1 l2 : Value) (l0 : Nat) (H : HS) : rn 62 8 [.ref l0, l1, l2] [] H = rn 62 9 [.ref l0, l1, l2] [.ref l0] H := rn_nx rfl
theorem x62_9 (l0 l1 : Value) (l2 : Int32) (s0 : Nat) (H : HS) : rn 62 9 [l0, l1, .int l2] [.ref s0] H = rn 62 10 [l0, l1, .int l2] [.int l2, .ref s0] H := rn_nx rfl
theorem x62_10 (l0 l1 l2 : Value) (s0 : Int32) (s1 : Nat) (H : HS) (h : recv H s1 1 = true) : rn 62 10 [l0, l1, l2] [.int s0, .ref s1] H = bnd true 62 10 [l0, l1, l2] [] (rcal 55 [.ref s1, .int s0] H) := rn_cal (vcal h rfl)
theorem x62_13 (l0 l1 l2 : Value) (s0 : Int32) (H : HS) : rn 62 13 [l0, l1, l2] [.int s0] H = if s0 = 0 then rn 62 16 [l0, l1, l2] [] H else rn 62 18 [l0, l1, l2] [] H := (rn_ev ..).trans (ev_bin rfl)
theorem x62_16 (l0 l1 l2 : Value) (H : HS) : rn 62 16 [l0, l1, l2] [] H = rn 62 17 [l0, l1, l2] [.int 0] H := rn_nx rfl
theorem x62_17 (l0 l1 l2 : Value) (s0 : Int32) (H : HS) : rn 62 17 [l0, l1, l2] [.int s0] H = some (.inl (some (.int s0)), H) := rn_end rfl
theorem x62_18 (l1 l2 : Value) (l0 : Nat) (H : HS) : rn 62 18 [.ref l0, l1, l2] [] H = rn 62 19 [.ref l0, l1, l2] [.ref l0] H := rn_nx rfl
theorem x62_19 (l0 l1 l2 : Value) (s0 : Nat) (H : HS) : rn 62 19 [l0, l1, l2] [.ref s0] H = gk 62 22 [l0, l1, l2] [] H (gfd H 1 3 s0) := (rn_ev ..).trans (ev_gk rfl)
theorem x62_22 (l0 l2 : Value) (l1 : Int32) (s0 : Nat) (H : HS) : rn 62 22 [l0, .int l1, l2] [.ref s0] H = rn 62 23 [l0, .int l1, l2] [.int l1, .ref s0] H := rn_nx rfl
theorem x62_23 (l0 l1 l2 : Value) (s0 : Int32) (s1 : Nat) (H : HS) : rn 62 23 [l0, l1, l2] [.int s0, .ref s1] H = gk 62 24 [l0, l1, l2] [] H (ald H 100 s1 s0) := (rn_ev ..).trans (ev_gk rfl)
theorem x62_24 (l1 l2 : Value) (l0 : Nat) (s0 : Int32) (H : HS) : rn 62 24 [.ref l0, l1, l2] [.int s0] H = rn 62 25 [.ref l0, l1, l2] [.ref l0, .int s0] H := rn_nx rfl
theorem x62_25 (l0 l1 l2 : Value) (s0 : Nat) (s1 : Int32) (H : HS) : rn 62 25 [l0, l1, l2] [.ref s0, .int s1] H = gk 62 28 [l0, l1, l2] [.int s1] H (gfd H 1 3 s0) := (rn_ev ..).trans (ev_gk rfl)
theorem x62_28 (l0 l1 : Value) (l2 : Int32) (s0 : Nat) (s1 : Int32) (H : HS) : rn 62 28 [l0, l1, .int l2] [.ref s0, .int s1] H = rn 62 29 [l0, l1, .int l2] [.int l2, .ref s0, .int s1] H := rn_nx rfl
theorem x62_29 (l0 l1 l2 : Value) (s0 : Int32) (s1 : Nat) (s2 : Int32) (H : HS) : rn 62 29 [l0, l1, l2] [.int s0, .ref s1, .int s2] H = gk 62 30 [l0, l1, l2] [.int s2] H (ald H 100 s1 s0) := (rn_ev ..).trans (ev_gk rfl)
theorem x62_30 (l0 l1 l2 : Value) (s0 : Int32) (s1 : Int32) (H : HS) : rn 62 30 [l0, l1, l2] [.int s0, .int s1] H = rn 62 31 [l0, l1, l2] [.int (s1 - s0)] H := rn_nx rfl
theorem x62_31 (l0 l1 l2 : Value) (s0 : Int32) (H : HS) : rn 62 31 [l0, l1, l2] [.int s0] H = rn 62 34 [l0, l1, l2] [.int (if 0 ≤ s0 then s0 else 0 - s0)] H := rn_nx rfl
theorem x62_34 (l0 l1 l2 : Value) (s0 : Int32) (H : HS) : rn 62 34 [l0, l1, l2] [.int s0] H = some (.inl (some (.int s0)), H) := rn_end rfl
theorem c62 (a0 : Nat) (a1 : Int32) (a2 : Int32) (H : HS) : rcal 62 [.ref a0, .int a1, .int a2] H = rn 62 0 [.ref a0, .int a1, .int a2] [] H := rfl
theorem x63_0 (l0 : Value) (l1 : Nat) (H : HS) : rn 63 0 [l0, .ref l1] [] H = rn 63 1 [l0, .ref l1] [.ref l1] H := rn_nx rfl
theorem x63_1 (l0 l1 : Value) (s0 : Nat) (H : HS) : rn 63 1 [l0, l1] [.ref s0] H = gk 63 4 [l0, l1] [] H (gfd H 2 0 s0) := (rn_ev ..).trans (ev_gk rfl)
theorem x63_4 (l0 l1 : Value) (s0 : Nat) (H : HS) : rn 63 4 [l0, l1] [.ref s0] H = rn 63 7 [l0, l1] [.ref 2, .ref s0] H := rn_nx rfl
theorem x63_7 (l0 l1 : Value) (s0 : Nat) (s1 : Nat) (H : HS) : rn 63 7 [l0, l1] [.ref s0, .ref s1] H = qk 63 10 25 [l0, l1] [] H (req H (.ref s1) (.ref s0)) := (rn_ev ..).trans (ev_qn rfl)
theorem x63_10 (l0 : Value) (l1 : Nat) (H : HS) : rn 63 10 [l0, .ref l1] [] H = rn 63 11 [l0, .ref l1] [.ref l1] H := rn_nx rfl
theorem x63_11 (l0 l1 : Value) (s0 : Nat) (H : HS) : rn 63 11 [l0, l1] [.ref s0] H = gk 63 14 [l0, l1] [] H (gfd H 2 4 s0) := (rn_ev ..).trans (ev_gk rfl)
theorem x63_14 (l1 : Value) (l0 : Nat) (s0 : Int32) (H : HS) : rn 63 14 [.ref l0, l1] [.int s0] H = rn 63 15 [.ref l0, l1] [.ref l0, .int s0] H := rn_nx rfl
theorem x63_15 (l0 l1 : Value) (s0 : Nat) (s1 : Int32) (H : HS) : rn 63 15 [l0, l1] [.ref s0, .int s1] H = gk 63 18 [l0, l1] [.int s1] H (gfd H 1 7 s0) := (rn_ev ..).trans (ev_gk rfl)
theorem x63_18 (l0 l1 : Value) (s0 : Int32) (s1 : Int32) (H : HS) : rn 63 18 [l0, l1] [.int s0, .int s1] H = if s0 < s1 then rn 63 21 [l0, l1] [] H else rn 63 25 [l0, l1] [] H := (rn_ev ..).trans (ev_bin rfl)
theorem x63_21 (l0 l1 : Value) (H : HS) : rn 63 21 [l0, l1] [] H = rn 63 22 [l0, l1] [.int 1] H := rn_nx rfl
theorem x63_22 (l0 l1 : Value) (s0 : Int32) (H : HS) : rn 63 22 [l0, l1] [.int s0] H = rn 63 26 [l0, l1] [.int s0] H := rn_nx rfl
theorem x63_26 (l0 l1 : Value) (s0 : Int32) (H : HS) : rn 63 26 [l0, l1] [.int s0] H = if fitp 1 (.int s0) = true then some (.inl (some (.int s0)), H) else none := (rn_ev ..).trans (ev_ret rfl)
theorem x63_25 (l0 l1 : Value) (H : HS) : rn 63 25 [l0, l1] [] H = rn 63 26 [l0, l1] [.int 0] H := rn_nx rfl
theorem c63 (a0 : Nat) (a1 : Nat) (H : HS) : rcal 63 [.ref a0, .ref a1] H = rn 63 0 [.ref a0, .ref a1] [] H := rfl
theorem x64_0 (l0 l1 l2 l3 l4 l5 l6 : Value) (H : HS) : rn 64 0 [l0, l1, l2, l3, l4, l5, l6] [] H = rn 64 1 [l0, l1, l2, l3, l4, l5, l6] [.int 0] H := rn_nx rfl
theorem x64_1 (l0 l1 l2 l3 l4 l5 l6 : Value) (s0 : Int32) (H : HS) : rn 64 1 [l0, l1, l2, l3, l4, l5, l6] [.int s0] H = rn 64 2 [l0, (kl l1), .int s0, l3, l4, l5, l6] [] H := rn_nx rfl
theorem x64_2 (l1 l2 l3 l4 l5 l6 : Value) (l0 : Nat) (H : HS) : rn 64 2 [.ref l0, l1, l2, l3, l4, l5, l6] [] H = rn 64 3 [.ref l0, l1, l2, l3, l4, l5, l6] [.ref l0] H := rn_nx rfl
theorem x64_3 (l0 l1 l2 l3 l4 l5 l6 : Value) (s0 : Nat) (H : HS) : rn 64 3 [l0, l1, l2, l3, l4, l5, l6] [.ref s0] H = gk 64 6 [l0, l1, l2, l3, l4, l5, l6] [] H (gfd H 1 4 s0) := (rn_ev ..).trans (ev_gk rfl)
theorem x64_6 (l0 l1 l2 l3 l4 l5 l6 : Value) (s0 : Nat) (H : HS) : rn 64 6 [l0, l1, l2, l3, l4, l5, l6] [.ref s0] H = rn 64 7 [l0, l1, (kl l2), .ref s0, l4, l5, l6] [] H := rn_nx rfl
theorem x64_7 (l0 l1 l2 l4 l5 l6 : Value) (l3 : Nat) (H : HS) : rn 64 7 [l0, l1, l2, .ref l3, l4, l5, l6] [] H = rn 64 8 [l0, l1, l2, .ref l3, l4, l5, l6] [.ref l3] H := rn_nx rfl
theorem x64_8 (l0 l1 l2 l3 l4 l5 l6 : Value) (s0 : Nat) (H : HS) : rn 64 8 [l0, l1, l2, l3, l4, l5, l6] [.ref s0] H = gk 64 9 [l0, l1, l2, l3, l4, l5, l6] [] H (alen H s0) := (rn_ev ..).trans (ev_gk rfl)
theorem x64_9 (l0 l1 l2 l3 l4 l5 l6 : Value) (s0 : Int32) (H : HS) : rn 64 9 [l0, l1, l2, l3, l4, l5, l6] [.int s0] H = rn 64 11 [l0, l1, l2, (kl l3), .int s0, l5, l6] [] H := rn_nx rfl
theorem x64_11 (l0 l1 l2 l3 l4 l5 l6 : Value) (H : HS) : rn 64 11 [l0, l1, l2, l3, l4, l5, l6] [] H = rn 64 12 [l0, l1, l2, l3, l4, l5, l6] [.int 0] H := rn_nx rfl
theorem x64_12 (l0 l1 l2 l3 l4 l5 l6 : Value) (s0 : Int32) (H : HS) : rn 64 12 [l0, l1, l2, l3, l4, l5, l6] [.int s0] H = rn 64 14 [l0, l1, l2, l3, (kl l4), .int s0, l6] [] H := rn_nx rfl
theorem x64_14 (l0 l1 l2 l3 l4 l6 : Value) (l5 : Int32) (H : HS) : rn 64 14 [l0, l1, l2, l3, l4, .int l5, l6] [] H = rn 64 16 [l0, l1, l2, l3, l4, .int l5, l6] [.int l5] H := rn_nx rfl
theorem x64_16 (l0 l1 l2 l3 l5 l6 : Value) (l4 : Int32) (s0 : Int32) (H : HS) : rn 64 16 [l0, l1, l2, l3, .int l4, l5, l6] [.int s0] H = rn 64 18 [l0, l1, l2, l3, .int l4, l5, l6] [.int l4, .int s0] H := rn_nx rfl
theorem x64_18 (l0 l1 l2 l3 l4 l5 l6 : Value) (s0 : Int32) (s1 : Int32) (H : HS) : rn 64 18 [l0, l1, l2, l3, l4, l5, l6] [.int s0, .int s1] H = if s1 < s0 then rn 64 21 [l0, l1, l2, l3, l4, l5, l6] [] H else rn 64 53 [l0, l1, l2, l3, l4, l5, l6] [] H := (rn_ev ..).trans (ev_bin rfl)
theorem x64_21 (l0 l1 l2 l4 l5 l6 : Value) (l3 : Nat) (H : HS) : rn 64 21 [l0, l1, l2, .ref l3, l4, l5, l6] [] H = rn 64 22 [l0, l1, l2, .ref l3, l4, l5, l6] [.ref l3] H := rn_nx rfl
theorem x64_22 (l0 l1 l2 l3 l4 l6 : Value) (l5 : Int32) (s0 : Nat) (H : HS) : rn 64 22 [l0, l1, l2, l3, l4, .int l5, l6] [.ref s0] H = rn 64 24 [l0, l1, l2, l3, l4, .int l5, l6] [.int l5, .ref s0] H := rn_nx rfl
theorem x64_24 (l0 l1 l2 l3 l4 l5 l6 : Value) (s0 : Int32) (s1 : Nat) (H : HS) : rn 64 24 [l0, l1, l2, l3, l4, l5, l6] [.int s0, .ref s1] H = gk 64 25 [l0, l1, l2, l3, l4, l5, l6] [] H (aald H s1 s0) := (rn_ev ..).trans (ev_gk rfl)
theorem x64_25 (l0 l1 l2 l3 l4 l5 l6 : Value) (s0 : Nat) (H : HS) : rn 64 25 [l0, l1, l2, l3, l4, l5, l6] [.ref s0] H = rn 64 27 [l0, l1, l2, l3, l4, (kl l5), .ref s0] [] H := rn_nx rfl
theorem x64_27 (l0 l1 l2 l3 l4 l5 : Value) (l6 : Nat) (H : HS) : rn 64 27 [l0, l1, l2, l3, l4, l5, .ref l6] [] H = rn 64 29 [l0, l1, l2, l3, l4, l5, .ref l6] [.ref l6] H := rn_nx rfl
theorem x64_29 (l0 l1 l2 l3 l4 l5 l6 : Value) (s0 : Nat) (H : HS) (h : recv H s0 2 = true) : rn 64 29 [l0, l1, l2, l3, l4, l5, l6] [.ref s0] H = bnd true 64 29 [l0, l1, l2, l3, l4, l5, l6] [] (rcal 82 [.ref s0] H) := rn_cal (vcal h rfl)
theorem x64_32 (l0 l1 l2 l3 l4 l5 l6 : Value) (s0 : Int32) (H : HS) : rn 64 32 [l0, l1, l2, l3, l4, l5, l6] [.int s0] H = if s0 = 0 then rn 64 47 [l0, l1, l2, l3, l4, l5, l6] [] H else rn 64 35 [l0, l1, l2, l3, l4, l5, l6] [] H := (rn_ev ..).trans (ev_bif rfl)
theorem x64_35 (l0 l1 l2 l3 l4 l5 : Value) (l6 : Nat) (H : HS) : rn 64 35 [l0, l1, l2, l3, l4, l5, .ref l6] [] H = rn 64 37 [l0, l1, l2, l3, l4, l5, .ref l6] [.ref l6] H := rn_nx rfl
theorem x64_37 (l0 l2 l3 l4 l5 l6 : Value) (l1 : Nat) (s0 : Nat) (H : HS) : rn 64 37 [l0, .ref l1, l2, l3, l4, l5, l6] [.ref s0] H = rn 64 38 [l0, .ref l1, l2, l3, l4, l5, l6] [.ref l1, .ref s0] H := rn_nx rfl
theorem x64_38 (l0 l1 l2 l3 l4 l5 l6 : Value) (s0 : Nat) (s1 : Nat) (H : HS) (h : recv H s1 2 = true) : rn 64 38 [l0, l1, l2, l3, l4, l5, l6] [.ref s0, .ref s1] H = bnd true 64 38 [l0, l1, l2, l3, l4, l5, l6] [] (rcal 88 [.ref s1, .ref s0] H) := rn_cal (vcal h rfl)
theorem x64_41 (l0 l1 l2 l3 l4 l5 l6 : Value) (s0 : Int32) (H : HS) : rn 64 41 [l0, l1, l2, l3, l4, l5, l6] [.int s0] H = if s0 = 0 then rn 64 47 [l0, l1, l2, l3, l4, l5, l6] [] H else rn 64 44 [l0, l1, l2, l3, l4, l5, l6] [] H := (rn_ev ..).trans (ev_bif rfl)
theorem x64_44 (l0 l1 l3 l4 l5 l6 : Value) (l2 : Int32) (H : HS) : rn 64 44 [l0, l1, .int l2, l3, l4, l5, l6] [] H = rn 64 47 [l0, (kl l1), .int (l2 + 1), l3, l4, l5, l6] [] H := rn_nx rfl
theorem x64_47 (l0 l1 l2 l3 l4 l6 : Value) (l5 : Int32) (H : HS) : rn 64 47 [l0, l1, l2, l3, l4, .int l5, l6] [] H = rn 64 50 [l0, l1, l2, l3, (kl l4), .int (l5 + 1), l6] [] H := rn_nx rfl
theorem x64_50 (l0 l1 l2 l3 l4 l5 l6 : Value) (H : HS) : rn 64 50 [l0, l1, l2, l3, l4, l5, l6] [] H = rn 64 14 [l0, l1, l2, l3, l4, l5, l6] [] H := rn_nx rfl
theorem x64_53 (l0 l1 l3 l4 l5 l6 : Value) (l2 : Int32) (H : HS) : rn 64 53 [l0, l1, .int l2, l3, l4, l5, l6] [] H = rn 64 54 [l0, l1, .int l2, l3, l4, l5, l6] [.int l2] H := rn_nx rfl
theorem x64_54 (l0 l1 l2 l3 l4 l5 l6 : Value) (s0 : Int32) (H : HS) : rn 64 54 [l0, l1, l2, l3, l4, l5, l6] [.int s0] H = some (.inl (some (.int s0)), H) := rn_end rfl
theorem c64 (a0 : Nat) (a1 : Nat) (H : HS) : rcal 64 [.ref a0, .ref a1] H = rn 64 0 [.ref a0, .ref a1, un, un, un, un, un] [] H := rfl
theorem x65_0 (l0 l1 : Value) (H : HS) : rn 65 0 [l0, l1] [] H = rn 65 1 [l0, l1] [.int 0] H := rn_nx rfl
theorem x65_1 (l0 l1 : Value) (s0 : Int32) (H : HS) : rn 65 1 [l0, l1] [.int s0] H = rn 65 2 [(kl l0), .int s0] [] H := rn_nx rfl
theorem x65_2 (l0 : Value) (l1 : Int32) (H : HS) : rn 65 2 [l0, .int l1] [] H = rn 65 3 [l0, .int l1] [.int l1] H := rn_nx rfl
theorem x65_3 (l1 : Value) (l0 : Nat) (s0 : Int32) (H : HS) : rn 65 3 [.ref l0, l1] [.int s0] H = rn 65 4 [.ref l0, l1] [.ref l0, .int s0] H := rn_nx rfl
theorem x65_4 (l0 l1 : Value) (s0 : Nat) (s1 : Int32) (H : HS) : rn 65 4 [l0, l1] [.ref s0, .int s1] H = gk 65 7 [l0, l1] [.int s1] H (gfd H 1 0 s0) := (rn_ev ..).trans (ev_gk rfl)
theorem x65_7 (l0 l1 : Value) (s0 : Int32) (s1 : Int32) (H : HS) : rn 65 7 [l0, l1] [.int s0, .int s1] H = if s1 < s0 then rn 65 10 [l0, l1] [] H else rn 65 26 [l0, l1] [] H := (rn_ev ..).trans (ev_bin rfl)
theorem x65_10 (l1 : Value) (l0 : Nat) (H : HS) : rn 65 10 [.ref l0, l1] [] H = rn 65 11 [.ref l0, l1] [.ref l0] H := rn_nx rfl
theorem x65_11 (l0 : Value) (l1 : Int32) (s0 : Nat) (H : HS) : rn 65 11 [l0, .int l1] [.ref s0] H = rn 65 12 [l0, .int l1] [.int l1, .ref s0] H := rn_nx rfl
theorem x65_12 (l0 l1 : Value) (s0 : Int32) (s1 : Nat) (H : HS) (h : recv H s1 1 = true) : rn 65 12 [l0, l1] [.int s0, .ref s1] H = bnd true 65 12 [l0, l1] [] (rcal 60 [.ref s1, .int s0] H) := rn_cal (vcal h rfl)
theorem x65_15 (l0 l1 : Value) (s0 : Int32) (H : HS) : rn 65 15 [l0, l1] [.int s0] H = if s0 < 0 then rn 65 18 [l0, l1] [] H else rn 65 20 [l0, l1] [] H := (rn_ev ..).trans (ev_bin rfl)
theorem x65_18 (l0 l1 : Value) (H : HS) : rn 65 18 [l0, l1] [] H = rn 65 19 [l0, l1] [.int 0] H := rn_nx rfl
theorem x65_19 (l0 l1 : Value) (s0 : Int32) (H : HS) : rn 65 19 [l0, l1] [.int s0] H = if fitp 1 (.int s0) = true then some (.inl (some (.int s0)), H) else none := (rn_ev ..).trans (ev_ret rfl)
theorem x65_20 (l0 : Value) (l1 : Int32) (H : HS) : rn 65 20 [l0, .int l1] [] H = rn 65 23 [(kl l0), .int (l1 + 1)] [] H := rn_nx rfl
theorem x65_23 (l0 l1 : Value) (H : HS) : rn 65 23 [l0, l1] [] H = rn 65 2 [l0, l1] [] H := rn_nx rfl
theorem x65_26 (l0 l1 : Value) (H : HS) : rn 65 26 [l0, l1] [] H = rn 65 27 [l0, l1] [.int 1] H := rn_nx rfl
theorem x65_27 (l0 l1 : Value) (s0 : Int32) (H : HS) : rn 65 27 [l0, l1] [.int s0] H = if fitp 1 (.int s0) = true then some (.inl (some (.int s0)), H) else none := (rn_ev ..).trans (ev_ret rfl)
theorem c65 (a0 : Nat) (H : HS) : rcal 65 [.ref a0] H = rn 65 0 [.ref a0, un] [] H := rfl
theorem x66_0 (l1 l2 l3 l4 : Value) (l0 : Nat) (H : HS) : rn 66 0 [.ref l0, l1, l2, l3, l4] [] H = rn 66 1 [.ref l0, l1, l2, l3, l4] [.ref l0] H := rn_nx rfl
theorem x66_1 (l0 l1 l2 l3 l4 : Value) (s0 : Nat) (H : HS) : rn 66 1 [l0, l1, l2, l3, l4] [.ref s0] H = gk 66 4 [l0, l1, l2, l3, l4] [] H (gfd H 1 4 s0) := (rn_ev ..).trans (ev_gk rfl)
theorem x66_4 (l0 l1 l2 l3 l4 : Value) (s0 : Nat) (H : HS) : rn 66 4 [l0, l1, l2, l3, l4] [.ref s0] H = rn 66 5 [(kl l0), .ref s0, l2, l3, l4] [] H := rn_nx rfl
theorem x66_5 (l0 l2 l3 l4 : Value) (l1 : Nat) (H : HS) : rn 66 5 [l0, .ref l1, l2, l3, l4] [] H = rn 66 6 [l0, .ref l1, l2, l3, l4] [.ref l1] H := rn_nx rfl
theorem x66_6 (l0 l1 l2 l3 l4 : Value) (s0 : Nat) (H : HS) : rn 66 6 [l0, l1, l2, l3, l4] [.ref s0] H = gk 66 7 [l0, l1, l2, l3, l4] [] H (alen H s0) := (rn_ev ..).trans (ev_gk rfl)
theorem x66_7 (l0 l1 l2 l3 l4 : Value) (s0 : Int32) (H : HS) : rn 66 7 [l0, l1, l2, l3, l4] [.int s0] H = rn 66 8 [l0, (kl l1), .int s0, l3, l4] [] H := rn_nx rfl
theorem x66_8 (l0 l1 l2 l3 l4 : Value) (H : HS) : rn 66 8 [l0, l1, l2, l3, l4] [] H = rn 66 9 [l0, l1, l2, l3, l4] [.int 0] H := rn_nx rfl
theorem x66_9 (l0 l1 l2 l3 l4 : Value) (s0 : Int32) (H : HS) : rn 66 9 [l0, l1, l2, l3, l4] [.int s0] H = rn 66 10 [l0, l1, (kl l2), .int s0, l4] [] H := rn_nx rfl
theorem x66_10 (l0 l1 l2 l4 : Value) (l3 : Int32) (H : HS) : rn 66 10 [l0, l1, l2, .int l3, l4] [] H = rn 66 11 [l0, l1, l2, .int l3, l4] [.int l3] H := rn_nx rfl
theorem x66_11 (l0 l1 l3 l4 : Value) (l2 : Int32) (s0 : Int32) (H : HS) : rn 66 11 [l0, l1, .int l2, l3, l4] [.int s0] H = rn 66 12 [l0, l1, .int l2, l3, l4] [.int l2, .int s0] H := rn_nx rfl
theorem x66_12 (l0 l1 l2 l3 l4 : Value) (s0 : Int32) (s1 : Int32) (H : HS) : rn 66 12 [l0, l1, l2, l3, l4] [.int s0, .int s1] H = if s1 < s0 then rn 66 15 [l0, l1, l2, l3, l4] [] H else rn 66 53 [l0, l1, l2, l3, l4] [] H := (rn_ev ..).trans (ev_bin rfl)
theorem x66_15 (l0 l2 l3 l4 : Value) (l1 : Nat) (H : HS) : rn 66 15 [l0, .ref l1, l2, l3, l4] [] H = rn 66 16 [l0, .ref l1, l2, l3, l4] [.ref l1] H := rn_nx rfl
theorem x66_16 (l0 l1 l2 l4 : Value) (l3 : Int32) (s0 : Nat) (H : HS) : rn 66 16 [l0, l1, l2, .int l3, l4] [.ref s0] H = rn 66 17 [l0, l1, l2, .int l3, l4] [.int l3, .ref s0] H := rn_nx rfl
theorem x66_17 (l0 l1 l2 l3 l4 : Value) (s0 : Int32) (s1 : Nat) (H : HS) : rn 66 17 [l0, l1, l2, l3, l4] [.int s0, .ref s1] H = gk 66 18 [l0, l1, l2, l3, l4] [] H (aald H s1 s0) := (rn_ev ..).trans (ev_gk rfl)
theorem x66_18 (l0 l1 l2 l3 l4 : Value) (s0 : Nat) (H : HS) : rn 66 18 [l0, l1, l2, l3, l4] [.ref s0] H = rn 66 20 [l0, l1, l2, (kl l3), .ref s0] [] H := rn_nx rfl
theorem x66_20 (l0 l1 l2 l3 : Value) (l4 : Nat) (H : HS) : rn 66 20 [l0, l1, l2, l3, .ref l4] [] H = rn 66 22 [l0, l1, l2, l3, .ref l4] [.ref l4] H := rn_nx rfl
theorem x66_22 (l0 l1 l2 l3 l4 : Value) (s0 : Nat) (H : HS) : rn 66 22 [l0, l1, l2, l3, l4] [.ref s0] H = gk 66 25 [l0, l1, l2, l3, l4] [] H (gfd H 2 0 s0) := (rn_ev ..).trans (ev_gk rfl)
theorem x66_25 (l0 l1 l2 l3 l4 : Value) (s0 : Nat) (H : HS) : rn 66 25 [l0, l1, l2, l3, l4] [.ref s0] H = rn 66 28 [l0, l1, l2, l3, l4] [.ref 4, .ref s0] H := rn_nx rfl
theorem x66_28 (l0 l1 l2 l3 l4 : Value) (s0 : Nat) (s1 : Nat) (H : HS) : rn 66 28 [l0, l1, l2, l3, l4] [.ref s0, .ref s1] H = qk 66 31 47 [l0, l1, l2, l3, l4] [] H (req H (.ref s1) (.ref s0)) := (rn_ev ..).trans (ev_qn rfl)
theorem x66_31 (l1 l2 l3 l4 : Value) (l0 : Nat) (H : HS) : rn 66 31 [.ref l0, l1, l2, l3, l4] [] H = rn 66 32 [.ref l0, l1, l2, l3, l4] [.ref l0] H := rn_nx rfl
theorem x66_32 (l0 l1 l2 l3 : Value) (l4 : Nat) (s0 : Nat) (H : HS) : rn 66 32 [l0, l1, l2, l3, .ref l4] [.ref s0] H = rn 66 34 [l0, l1, l2, l3, .ref l4] [.ref l4, .ref s0] H := rn_nx rfl
theorem x66_34 (l0 l1 l2 l3 l4 : Value) (s0 : Nat) (s1 : Nat) (H : HS) : rn 66 34 [l0, l1, l2, l3, l4] [.ref s0, .ref s1] H = gk 66 37 [l0, l1, l2, l3, l4] [.ref s1] H (gfd H 2 7 s0) := (rn_ev ..).trans (ev_gk rfl)
theorem x66_37 (l0 l1 l2 l3 l4 : Value) (s0 : Int32) (s1 : Nat) (H : HS) (h : recv H s1 1 = true) : rn 66 37 [l0, l1, l2, l3, l4] [.int s0, .ref s1] H = bnd true 66 37 [l0, l1, l2, l3, l4] [] (rcal 59 [.ref s1, .int s0] H) := rn_cal (vcal h rfl)
theorem x66_40 (l0 l1 l2 l3 : Value) (l4 : Nat) (s0 : Nat) (H : HS) : rn 66 40 [l0, l1, l2, l3, .ref l4] [.ref s0] H = rn 66 42 [l0, l1, l2, l3, .ref l4] [.ref l4, .ref s0] H := rn_nx rfl
theorem x66_42 (l0 l1 l2 l3 l4 : Value) (s0 : Nat) (s1 : Nat) (H : HS) : rn 66 42 [l0, l1, l2, l3, l4] [.ref s0, .ref s1] H = qk 66 47 45 [l0, l1, l2, l3, l4] [] H (req H (.ref s1) (.ref s0)) := (rn_ev ..).trans (ev_qe rfl)
theorem x66_45 (l0 l1 l2 l3 l4 : Value) (H : HS) : rn 66 45 [l0, l1, l2, l3, l4] [] H = rn 66 46 [l0, l1, l2, l3, l4] [.int 0] H := rn_nx rfl
theorem x66_46 (l0 l1 l2 l3 l4 : Value) (s0 : Int32) (H : HS) : rn 66 46 [l0, l1, l2, l3, l4] [.int s0] H = if fitp 1 (.int s0) = true then some (.inl (some (.int s0)), H) else none := (rn_ev ..).trans (ev_ret rfl)
theorem x66_47 (l0 l1 l2 l4 : Value) (l3 : Int32) (H : HS) : rn 66 47 [l0, l1, l2, .int l3, l4] [] H = rn 66 50 [l0, l1, (kl l2), .int (l3 + 1), l4] [] H := rn_nx rfl
theorem x66_50 (l0 l1 l2 l3 l4 : Value) (H : HS) : rn 66 50 [l0, l1, l2, l3, l4] [] H = rn 66 10 [l0, l1, l2, l3, l4] [] H := rn_nx rfl
theorem x66_53 (l0 l1 l2 l3 l4 : Value) (H : HS) : rn 66 53 [l0, l1, l2, l3, l4] [] H = rn 66 54 [l0, l1, l2, l3, l4] [.int 1] H := rn_nx rfl
theorem x66_54 (l0 l1 l2 l3 l4 : Value) (s0 : Int32) (H : HS) : rn 66 54 [l0, l1, l2, l3, l4] [.int s0] H = if fitp 1 (.int s0) = true then some (.inl (some (.int s0)), H) else none := (rn_ev ..).trans (ev_ret rfl)
theorem c66 (a0 : Nat) (H : HS) : rcal 66 [.ref a0] H = rn 66 0 [.ref a0, un, un, un, un] [] H := rfl
theorem x67_0 (l0 l1 l2 : Value) (H : HS) : rn 67 0 [l0, l1, l2] [] H = rn 67 1 [l0, l1, l2] [.int 0] H := rn_nx rfl
theorem x67_1 (l0 l1 l2 : Value) (s0 : Int32) (H : HS) : rn 67 1 [l0, l1, l2] [.int s0] H = rn 67 2 [(kl l0), .int s0, l2] [] H := rn_nx rfl
theorem x67_2 (l0 l2 : Value) (l1 : Int32) (H : HS) : rn 67 2 [l0, .int l1, l2] [] H = rn 67 3 [l0, .int l1, l2] [.int l1] H := rn_nx rfl
theorem x67_3 (l1 l2 : Value) (l0 : Nat) (s0 : Int32) (H : HS) : rn 67 3 [.ref l0, l1, l2] [.int s0] H = rn 67 4 [.ref l0, l1, l2] [.ref l0, .int s0] H := rn_nx rfl
theorem x67_4 (l0 l1 l2 : Value) (s0 : Nat) (s1 : Int32) (H : HS) : rn 67 4 [l0, l1, l2] [.ref s0, .int s1] H = gk 67 7 [l0, l1, l2] [.int s1] H (gfd H 1 0 s0) := (rn_ev ..).trans (ev_gk rfl)
theorem x67_7 (l0 l1 l2 : Value) (s0 : Int32) (s1 : Int32) (H : HS) : rn 67 7 [l0, l1, l2] [.int s0, .int s1] H = if s1 < s0 then rn 67 10 [l0, l1, l2] [] H else rn 67 49 [l0, l1, l2] [] H := (rn_ev ..).trans (ev_bin rfl)
theorem x67_10 (l0 l1 l2 : Value) (H : HS) : rn 67 10 [l0, l1, l2] [] H = rn 67 11 [l0, l1, l2] [.int 0] H := rn_nx rfl
theorem x67_11 (l0 l1 l2 : Value) (s0 : Int32) (H : HS) : rn 67 11 [l0, l1, l2] [.int s0] H = rn 67 12 [l0, (kl l1), .int s0] [] H := rn_nx rfl
theorem x67_12 (l0 l1 : Value) (l2 : Int32) (H : HS) : rn 67 12 [l0, l1, .int l2] [] H = rn 67 13 [l0, l1, .int l2] [.int l2] H := rn_nx rfl
theorem x67_13 (l1 l2 : Value) (l0 : Nat) (s0 : Int32) (H : HS) : rn 67 13 [.ref l0, l1, l2] [.int s0] H = rn 67 14 [.ref l0, l1, l2] [.ref l0, .int s0] H := rn_nx rfl
theorem x67_14 (l0 l1 l2 : Value) (s0 : Nat) (s1 : Int32) (H : HS) : rn 67 14 [l0, l1, l2] [.ref s0, .int s1] H = gk 67 17 [l0, l1, l2] [.int s1] H (gfd H 1 0 s0) := (rn_ev ..).trans (ev_gk rfl)
theorem x67_17 (l0 l1 l2 : Value) (s0 : Int32) (s1 : Int32) (H : HS) : rn 67 17 [l0, l1, l2] [.int s0, .int s1] H = if s1 < s0 then rn 67 20 [l0, l1, l2] [] H else rn 67 43 [l0, l1, l2] [] H := (rn_ev ..).trans (ev_bin rfl)
theorem x67_20 (l1 l2 : Value) (l0 : Nat) (H : HS) : rn 67 20 [.ref l0, l1, l2] [] H = rn 67 21 [.ref l0, l1, l2] [.ref l0] H := rn_nx rfl
theorem x67_21 (l0 l2 : Value) (l1 : Int32) (s0 : Nat) (H : HS) : rn 67 21 [l0, .int l1, l2] [.ref s0] H = rn 67 22 [l0, .int l1, l2] [.int l1, .ref s0] H := rn_nx rfl
theorem x67_22 (l0 l1 : Value) (l2 : Int32) (s0 : Int32) (s1 : Nat) (H : HS) : rn 67 22 [l0, l1, .int l2] [.int s0, .ref s1] H = rn 67 23 [l0, l1, .int l2] [.int l2, .int s0, .ref s1] H := rn_nx rfl
theorem x67_23 (l0 l1 l2 : Value) (s0 : Int32) (s1 : Int32) (s2 : Nat) (H : HS) (h : recv H s2 1 = true) : rn 67 23 [l0, l1, l2] [.int s0, .int s1, .ref s2] H = bnd true 67 23 [l0, l1, l2] [] (rcal 61 [.ref s2, .int s1, .int s0] H) := rn_cal (vcal h rfl)
theorem x67_26 (l1 l2 : Value) (l0 : Nat) (s0 : Int32) (H : HS) : rn 67 26 [.ref l0, l1, l2] [.int s0] H = rn 67 27 [.ref l0, l1, l2] [.ref l0, .int s0] H := rn_nx rfl
theorem x67_27 (l0 l2 : Value) (l1 : Int32) (s0 : Nat) (s1 : Int32) (H : HS) : rn 67 27 [l0, .int l1, l2] [.ref s0, .int s1] H = rn 67 28 [l0, .int l1, l2] [.int l1, .ref s0, .int s1] H := rn_nx rfl
theorem x67_28 (l0 l1 : Value) (l2 : Int32) (s0 : Int32) (s1 : Nat) (s2 : Int32) (H : HS) : rn 67 28 [l0, l1, .int l2] [.int s0, .ref s1, .int s2] H = rn 67 29 [l0, l1, .int l2] [.int l2, .int s0, .ref s1, .int s2] H := rn_nx rfl
theorem x67_29 (l0 l1 l2 : Value) (s0 : Int32) (s1 : Int32) (s2 : Nat) (s3 : Int32) (H : HS) (h : recv H s2 1 = true) : rn 67 29 [l0, l1, l2] [.int s0, .int s1, .ref s2, .int s3] H = bnd true 67 29 [l0, l1, l2] [.int s3] (rcal 62 [.ref s2, .int s1, .int s0] H) := rn_cal (vcal h rfl)
theorem x67_32 (l0 l1 l2 : Value) (s0 : Int32) (s1 : Int32) (H : HS) : rn 67 32 [l0, l1, l2] [.int s0, .int s1] H = if s1 = s0 then rn 67 37 [l0, l1, l2] [] H else rn 67 35 [l0, l1, l2] [] H := (rn_ev ..).trans (ev_bif rfl)
theorem x67_35 (l0 l1 l2 : Value) (H : HS) : rn 67 35 [l0, l1, l2] [] H = rn 67 36 [l0, l1, l2] [.int 0] H := rn_nx rfl
theorem x67_36 (l0 l1 l2 : Value) (s0 : Int32) (H : HS) : rn 67 36 [l0, l1, l2] [.int s0] H = if fitp 1 (.int s0) = true then some (.inl (some (.int s0)), H) else none := (rn_ev ..).trans (ev_ret rfl)
theorem x67_37 (l0 l1 : Value) (l2 : Int32) (H : HS) : rn 67 37 [l0, l1, .int l2] [] H = rn 67 40 [l0, (kl l1), .int (l2 + 1)] [] H := rn_nx rfl
theorem x67_40 (l0 l1 l2 : Value) (H : HS) : rn 67 40 [l0, l1, l2] [] H = rn 67 12 [l0, l1, l2] [] H := rn_nx rfl
theorem x67_43 (l0 l2 : Value) (l1 : Int32) (H : HS) : rn 67 43 [l0, .int l1, l2] [] H = rn 67 46 [(kl l0), .int (l1 + 1), l2] [] H := rn_nx rfl
theorem x67_46 (l0 l1 l2 : Value) (H : HS) : rn 67 46 [l0, l1, l2] [] H = rn 67 2 [l0, l1, l2] [] H := rn_nx rfl
theorem x67_49 (l0 l1 l2 : Value) (H : HS) : rn 67 49 [l0, l1, l2] [] H = rn 67 50 [l0, l1, l2] [.int 1] H := rn_nx rfl
theorem x67_50 (l0 l1 l2 : Value) (s0 : Int32) (H : HS) : rn 67 50 [l0, l1, l2] [.int s0] H = if fitp 1 (.int s0) = true then some (.inl (some (.int s0)), H) else none := (rn_ev ..).trans (ev_ret rfl)
theorem c67 (a0 : Nat) (H : HS) : rcal 67 [.ref a0] H = rn 67 0 [.ref a0, un, un] [] H := rfl
theorem x68_0 (l0 : Nat) (H : HS) : rn 68 0 [.ref l0] [] H = rn 68 1 [.ref l0] [.ref l0] H := rn_nx rfl
theorem x68_1 (l0 : Value) (s0 : Nat) (H : HS) : rn 68 1 [l0] [.ref s0] H = rn 68 4 [l0] [] H := rn_nx rfl
theorem x68_4 (l0 : Nat) (H : HS) : rn 68 4 [.ref l0] [] H = rn 68 5 [.ref l0] [.ref l0] H := rn_nx rfl
theorem x68_5 (l0 : Value) (s0 : Nat) (H : HS) : rn 68 5 [l0] [.ref s0] H = rn 68 7 [l0] [.int 60, .ref s0] H := rn_nx rfl
theorem x68_7 (l0 : Value) (s0 : Int32) (s1 : Nat) (H : HS) : rn 68 7 [l0] [.int s0, .ref s1] H = if s0 < 0 ∨ 100000 < s0.toNatClampNeg then none else rn 68 9 [l0] [.ref H.2.1, .ref s1] (hsn H (101, List.replicate s0.toNatClampNeg (.int 0)) s0.toNatClampNeg) := (rn_ev ..).trans (ev_if rfl)
theorem x68_9 (l0 : Value) (s0 : Nat) (s1 : Nat) (H : HS) : rn 68 9 [l0] [.ref s0, .ref s1] H = pk 68 12 [l0] [] (pfd H true 4 0 s1 (.ref s0)) := (rn_ev ..).trans (ev_pk rfl)
theorem x68_12 (l0 : Nat) (H : HS) : rn 68 12 [.ref l0] [] H = rn 68 13 [.ref l0] [.ref l0] H := rn_nx rfl
theorem x68_13 (l0 : Value) (s0 : Nat) (H : HS) : rn 68 13 [l0] [.ref s0] H = rn 68 16 [l0] [.ref 11, .ref s0] H := rn_nx rfl
theorem x68_16 (l0 : Value) (s0 : Nat) (s1 : Nat) (H : HS) : rn 68 16 [l0] [.ref s0, .ref s1] H = pk 68 19 [l0] [] (pfd H true 4 4 s1 (.ref s0)) := (rn_ev ..).trans (ev_pk rfl)
theorem x68_19 (l0 : Nat) (H : HS) : rn 68 19 [.ref l0] [] H = rn 68 20 [.ref l0] [.ref l0] H := rn_nx rfl
theorem x68_20 (l0 : Value) (s0 : Nat) (H : HS) : rn 68 20 [l0] [.ref s0] H = rn 68 21 [l0] [.int 3, .ref s0] H := rn_nx rfl
theorem x68_21 (l0 : Value) (s0 : Int32) (s1 : Nat) (H : HS) : rn 68 21 [l0] [.int s0, .ref s1] H = if s0 < 0 ∨ 100000 < s0.toNatClampNeg then none else rn 68 23 [l0] [.ref H.2.1, .ref s1] (hsn H (100, List.replicate s0.toNatClampNeg (.int 0)) s0.toNatClampNeg) := (rn_ev ..).trans (ev_if rfl)
theorem x68_23 (l0 : Value) (s0 : Nat) (s1 : Nat) (H : HS) : rn 68 23 [l0] [.ref s0, .ref s1] H = pk 68 26 [l0] [] (pfd H true 4 5 s1 (.ref s0)) := (rn_ev ..).trans (ev_pk rfl)
theorem x68_26 (l0 : Value) (H : HS) : rn 68 26 [l0] [] H = some (.inl none, H) := rn_end rfl
theorem c68 (a0 : Nat) (H : HS) : rcal 68 [.ref a0] H = rn 68 0 [.ref a0] [] H := rfl
theorem x69_0 (l0 : Nat) (H : HS) : rn 69 0 [.ref l0] [] H = rn 69 1 [.ref l0] [.ref l0] H := rn_nx rfl
theorem x69_1 (l0 : Value) (s0 : Nat) (H : HS) : rn 69 1 [l0] [.ref s0] H = gk 69 4 [l0] [] H (gfd H 4 1 s0) := (rn_ev ..).trans (ev_gk rfl)
theorem x69_4 (l0 : Value) (s0 : Int32) (H : HS) : rn 69 4 [l0] [.int s0] H = rn 69 6 [l0] [.int 60, .int s0] H := rn_nx rfl
theorem x69_6 (l0 : Value) (s0 : Int32) (s1 : Int32) (H : HS) : rn 69 6 [l0] [.int s0, .int s1] H = if s1 < s0 then rn 69 13 [l0] [] H else rn 69 9 [l0] [] H := (rn_ev ..).trans (ev_bif rfl)
theorem x69_9 (l0 : Value) (H : HS) : rn 69 9 [l0] [] H = rn 69 10 [l0] [.int 1] H := rn_nx rfl
theorem x69_10 (l0 : Value) (s0 : Int32) (H : HS) : rn 69 10 [l0] [.int s0] H = rn 69 14 [l0] [.int s0] H := rn_nx rfl
theorem x69_14 (l0 : Value) (s0 : Int32) (H : HS) : rn 69 14 [l0] [.int s0] H = if fitp 1 (.int s0) = true then some (.inl (some (.int s0)), H) else none := (rn_ev ..).trans (ev_ret rfl)
theorem x69_13 (l0 : Value) (H : HS) : rn 69 13 [l0] [] H = rn 69 14 [l0] [.int 0] H := rn_nx rfl
theorem c69 (a0 : Nat) (H : HS) : rcal 69 [.ref a0] H = rn 69 0 [.ref a0] [] H := rfl
theorem x70_0 (l1 : Value) (l0 : Nat) (H : HS) : rn 70 0 [.ref l0, l1] [] H = rn 70 1 [.ref l0, l1] [.ref l0] H := rn_nx rfl
theorem x70_1 (l0 l1 : Value) (s0 : Nat) (H : HS) (h : recv H s0 4 = true) : rn 70 1 [l0, l1] [.ref s0] H = bnd true 70 1 [l0, l1] [] (rcal 69 [.ref s0] H) := rn_cal (vcal h rfl)
theorem x70_4 (l0 l1 : Value) (s0 : Int32) (H : HS) : rn 70 4 [l0, l1] [.int s0] H = if s0 = 0 then rn 70 7 [l0, l1] [] H else rn 70 27 [l0, l1] [] H := (rn_ev ..).trans (ev_bin rfl)
theorem x70_7 (l1 : Value) (l0 : Nat) (H : HS) : rn 70 7 [.ref l0, l1] [] H = rn 70 8 [.ref l0, l1] [.ref l0] H := rn_nx rfl
theorem x70_8 (l0 l1 : Value) (s0 : Nat) (H : HS) : rn 70 8 [l0, l1] [.ref s0] H = gk 70 11 [l0, l1] [] H (gfd H 4 0 s0) := (rn_ev ..).trans (ev_gk rfl)
theorem x70_11 (l1 : Value) (l0 : Nat) (s0 : Nat) (H : HS) : rn 70 11 [.ref l0, l1] [.ref s0] H = rn 70 12 [.ref l0, l1] [.ref l0, .ref s0] H := rn_nx rfl
theorem x70_12 (l0 l1 : Value) (s0 : Nat) (s1 : Nat) (H : HS) : rn 70 12 [l0, l1] [.ref s0, .ref s1] H = gk 70 15 [l0, l1] [.ref s1] H (gfd H 4 1 s0) := (rn_ev ..).trans (ev_gk rfl)
theorem x70_15 (l0 : Value) (l1 : Int32) (s0 : Int32) (s1 : Nat) (H : HS) : rn 70 15 [l0, .int l1] [.int s0, .ref s1] H = rn 70 16 [l0, .int l1] [.int l1, .int s0, .ref s1] H := rn_nx rfl
theorem x70_16 (l0 l1 : Value) (s0 : Int32) (s1 : Int32) (s2 : Nat) (H : HS) : rn 70 16 [l0, l1] [.int s0, .int s1, .ref s2] H = pk 70 17 [l0, l1] [] (ast H 101 s2 s1 (.int (vp_nar .char s0))) := (rn_ev ..).trans (ev_pk rfl)
theorem x70_17 (l1 : Value) (l0 : Nat) (H : HS) : rn 70 17 [.ref l0, l1] [] H = rn 70 18 [.ref l0, l1] [.ref l0] H := rn_nx rfl
theorem x70_18 (l0 l1 : Value) (s0 : Nat) (H : HS) : rn 70 18 [l0, l1] [.ref s0] H = rn 70 19 [l0, l1] [.ref s0, .ref s0] H := rn_nx rfl
theorem x70_19 (l0 l1 : Value) (s0 : Nat) (s1 : Nat) (H : HS) : rn 70 19 [l0, l1] [.ref s0, .ref s1] H = gk 70 22 [l0, l1] [.ref s1] H (gfd H 4 1 s0) := (rn_ev ..).trans (ev_gk rfl)
theorem x70_22 (l0 l1 : Value) (s0 : Int32) (s1 : Nat) (H : HS) : rn 70 22 [l0, l1] [.int s0, .ref s1] H = rn 70 23 [l0, l1] [.int 1, .int s0, .ref s1] H := rn_nx rfl
theorem x70_23 (l0 l1 : Value) (s0 : Int32) (s1 : Int32) (s2 : Nat) (H : HS) : rn 70 23 [l0, l1] [.int s0, .int s1, .ref s2] H = rn 70 24 [l0, l1] [.int (s1 + s0), .ref s2] H := rn_nx rfl
theorem x70_24 (l0 l1 : Value) (s0 : Int32) (s1 : Nat) (H : HS) : rn 70 24 [l0, l1] [.int s0, .ref s1] H = pk 70 27 [l0, l1] [] (pfd H true 4 1 s1 (.int s0)) := (rn_ev ..).trans (ev_pk rfl)
theorem x70_27 (l1 : Value) (l0 : Nat) (H : HS) : rn 70 27 [.ref l0, l1] [] H = rn 70 28 [.ref l0, l1] [.ref l0] H := rn_nx rfl
theorem x70_28 (l0 l1 : Value) (s0 : Nat) (H : HS) : rn 70 28 [l0, l1] [.ref s0] H = gk 70 31 [l0, l1] [] H (gfd H 4 1 s0) := (rn_ev ..).trans (ev_gk rfl)
theorem x70_31 (l0 l1 : Value) (s0 : Int32) (H : HS) : rn 70 31 [l0, l1] [.int s0] H = some (.inl (some (.int s0)), H) := rn_end rfl
theorem c70 (a0 : Nat) (a1 : Int32) (H : HS) : rcal 70 [.ref a0, .int a1] H = rn 70 0 [.ref a0, .int a1] [] H := rfl
theorem x71_0 (l0 : Nat) (H : HS) : rn 71 0 [.ref l0] [] H = rn 71 1 [.ref l0] [.ref l0] H := rn_nx rfl
theorem x71_1 (l0 : Value) (s0 : Nat) (H : HS) : rn 71 1 [l0] [.ref s0] H = rn 71 2 [l0] [.int 0, .ref s0] H := rn_nx rfl
theorem x71_2 (l0 : Value) (s0 : Int32) (s1 : Nat) (H : HS) : rn 71 2 [l0] [.int s0, .ref s1] H = pk 71 5 [l0] [] (pfd H true 4 1 s1 (.int s0)) := (rn_ev ..).trans (ev_pk rfl)
theorem x71_5 (l0 : Value) (H : HS) : rn 71 5 [l0] [] H = some (.inl none, H) := rn_end rfl
theorem c71 (a0 : Nat) (H : HS) : rcal 71 [.ref a0] H = rn 71 0 [.ref a0] [] H := rfl
theorem x72_0 (l0 : Nat) (H : HS) : rn 72 0 [.ref l0] [] H = rn 72 1 [.ref l0] [.ref l0] H := rn_nx rfl
theorem x72_1 (l0 : Value) (s0 : Nat) (H : HS) : rn 72 1 [l0] [.ref s0] H = rn 72 2 [l0] [.int 0, .ref s0] H := rn_nx rfl
theorem x72_2 (l0 : Value) (s0 : Int32) (s1 : Nat) (H : HS) : rn 72 2 [l0] [.int s0, .ref s1] H = pk 72 5 [l0] [] (pfd H true 4 2 s1 (.int s0)) := (rn_ev ..).trans (ev_pk rfl)
theorem x72_5 (l0 : Value) (H : HS) : rn 72 5 [l0] [] H = some (.inl none, H) := rn_end rfl
theorem c72 (a0 : Nat) (H : HS) : rcal 72 [.ref a0] H = rn 72 0 [.ref a0] [] H := rfl
theorem x73_0 (l1 : Value) (l0 : Nat) (H : HS) : rn 73 0 [.ref l0, l1] [] H = rn 73 1 [.ref l0, l1] [.ref l0] H := rn_nx rfl
theorem x73_1 (l0 l1 : Value) (s0 : Nat) (H : HS) (h : recv H s0 4 = true) : rn 73 1 [l0, l1] [.ref s0] H = bnd true 73 1 [l0, l1] [] (rcal 72 [.ref s0] H) := rn_cal (vcal h rfl)
theorem x73_4 (l1 : Value) (l0 : Nat) (H : HS) : rn 73 4 [.ref l0, l1] [] H = rn 73 5 [.ref l0, l1] [.ref l0] H := rn_nx rfl
theorem x73_5 (l0 l1 : Value) (s0 : Nat) (H : HS) : rn 73 5 [l0, l1] [.ref s0] H = rn 73 6 [l0, l1] [.int 0, .ref s0] H := rn_nx rfl
theorem x73_6 (l0 l1 : Value) (s0 : Int32) (s1 : Nat) (H : HS) : rn 73 6 [l0, l1] [.int s0, .ref s1] H = pk 73 9 [l0, l1] [] (pfd H true 4 3 s1 (.int s0)) := (rn_ev ..).trans (ev_pk rfl)
theorem x73_9 (l0 l1 : Value) (H : HS) : rn 73 9 [l0, l1] [] H = rn 73 10 [l0, l1] [.int 1] H := rn_nx rfl
theorem x73_10 (l0 l1 : Value) (s0 : Int32) (H : HS) : rn 73 10 [l0, l1] [.int s0] H = rn 73 11 [(kl l0), .int s0] [] H := rn_nx rfl
theorem x73_11 (l0 : Value) (l1 : Int32) (H : HS) : rn 73 11 [l0, .int l1] [] H = rn 73 12 [l0, .int l1] [.int l1] H := rn_nx rfl
theorem x73_12 (l0 l1 : Value) (s0 : Int32) (H : HS) : rn 73 12 [l0, l1] [.int s0] H = if s0 = 0 then rn 73 56 [l0, l1] [] H else rn 73 15 [l0, l1] [] H := (rn_ev ..).trans (ev_bif rfl)
theorem x73_15 (l1 : Value) (l0 : Nat) (H : HS) : rn 73 15 [.ref l0, l1] [] H = rn 73 16 [.ref l0, l1] [.ref l0] H := rn_nx rfl
theorem x73_16 (l0 l1 : Value) (s0 : Nat) (H : HS) : rn 73 16 [l0, l1] [.ref s0] H = gk 73 19 [l0, l1] [] H (gfd H 4 3 s0) := (rn_ev ..).trans (ev_gk rfl)
theorem x73_19 (l0 l1 : Value) (s0 : Int32) (H : HS) : rn 73 19 [l0, l1] [.int s0] H = rn 73 21 [l0, l1] [.int 60, .int s0] H := rn_nx rfl
theorem x73_21 (l0 l1 : Value) (s0 : Int32) (s1 : Int32) (H : HS) : rn 73 21 [l0, l1] [.int s0, .int s1] H = if s1 < s0 then rn 73 24 [l0, l1] [] H else rn 73 56 [l0, l1] [] H := (rn_ev ..).trans (ev_bin rfl)
theorem x73_24 (l1 : Value) (l0 : Nat) (H : HS) : rn 73 24 [.ref l0, l1] [] H = rn 73 25 [.ref l0, l1] [.ref l0] H := rn_nx rfl
theorem x73_25 (l0 l1 : Value) (s0 : Nat) (H : HS) (h : recv H s0 4 = true) : rn 73 25 [l0, l1] [.ref s0] H = bnd true 73 25 [l0, l1] [] (rcal 75 [.ref s0] H) := rn_cal (vcal h rfl)
theorem x73_28 (l0 l1 : Value) (s0 : Int32) (H : HS) : rn 73 28 [l0, l1] [.int s0] H = if s0 = 0 then rn 73 31 [l0, l1] [] H else rn 73 36 [l0, l1] [] H := (rn_ev ..).trans (ev_bin rfl)
theorem x73_31 (l1 : Value) (l0 : Nat) (H : HS) : rn 73 31 [.ref l0, l1] [] H = rn 73 32 [.ref l0, l1] [.ref l0] H := rn_nx rfl
theorem x73_32 (l0 l1 : Value) (s0 : Nat) (H : HS) : rn 73 32 [l0, l1] [.ref s0] H = gk 73 35 [l0, l1] [] H (gfd H 4 2 s0) := (rn_ev ..).trans (ev_gk rfl)
theorem x73_35 (l0 l1 : Value) (s0 : Int32) (H : HS) : rn 73 35 [l0, l1] [.int s0] H = some (.inl (some (.int s0)), H) := rn_end rfl
theorem x73_36 (l1 : Value) (l0 : Nat) (H : HS) : rn 73 36 [.ref l0, l1] [] H = rn 73 37 [.ref l0, l1] [.ref l0] H := rn_nx rfl
theorem x73_37 (l0 l1 : Value) (s0 : Nat) (H : HS) : rn 73 37 [l0, l1] [.ref s0] H = rn 73 38 [l0, l1] [.ref s0, .ref s0] H := rn_nx rfl
theorem x73_38 (l0 l1 : Value) (s0 : Nat) (s1 : Nat) (H : HS) : rn 73 38 [l0, l1] [.ref s0, .ref s1] H = gk 73 41 [l0, l1] [.ref s1] H (gfd H 4 3 s0) := (rn_ev ..).trans (ev_gk rfl)
theorem x73_41 (l0 l1 : Value) (s0 : Int32) (s1 : Nat) (H : HS) : rn 73 41 [l0, l1] [.int s0, .ref s1] H = rn 73 42 [l0, l1] [.int 1, .int s0, .ref s1] H := rn_nx rfl
theorem x73_42 (l0 l1 : Value) (s0 : Int32) (s1 : Int32) (s2 : Nat) (H : HS) : rn 73 42 [l0, l1] [.int s0, .int s1, .ref s2] H = rn 73 43 [l0, l1] [.int (s1 + s0), .ref s2] H := rn_nx rfl
theorem x73_43 (l0 l1 : Value) (s0 : Int32) (s1 : Nat) (H : HS) : rn 73 43 [l0, l1] [.int s0, .ref s1] H = pk 73 46 [l0, l1] [] (pfd H true 4 3 s1 (.int s0)) := (rn_ev ..).trans (ev_pk rfl)
theorem x73_46 (l1 : Value) (l0 : Nat) (H : HS) : rn 73 46 [.ref l0, l1] [] H = rn 73 47 [.ref l0, l1] [.ref l0] H := rn_nx rfl
theorem x73_47 (l0 l1 : Value) (s0 : Nat) (H : HS) : rn 73 47 [l0, l1] [.ref s0] H = rn 73 49 [l0, l1] [.int 59, .ref s0] H := rn_nx rfl
theorem x73_49 (l0 l1 : Value) (s0 : Int32) (s1 : Nat) (H : HS) (h : recv H s1 4 = true) : rn 73 49 [l0, l1] [.int s0, .ref s1] H = bnd true 73 49 [l0, l1] [] (rcal 80 [.ref s1, .int s0] H) := rn_cal (vcal h rfl)
theorem x73_52 (l0 l1 : Value) (s0 : Int32) (H : HS) : rn 73 52 [l0, l1] [.int s0] H = rn 73 53 [(kl l0), .int s0] [] H := rn_nx rfl
theorem x73_53 (l0 l1 : Value) (H : HS) : rn 73 53 [l0, l1] [] H = rn 73 11 [l0, l1] [] H := rn_nx rfl
theorem x73_56 (l1 : Value) (l0 : Nat) (H : HS) : rn 73 56 [.ref l0, l1] [] H = rn 73 57 [.ref l0, l1] [.ref l0] H := rn_nx rfl
theorem x73_57 (l0 l1 : Value) (s0 : Nat) (H : HS) : rn 73 57 [l0, l1] [.ref s0] H = gk 73 60 [l0, l1] [] H (gfd H 4 2 s0) := (rn_ev ..).trans (ev_gk rfl)
theorem x73_60 (l1 : Value) (l0 : Nat) (s0 : Int32) (H : HS) : rn 73 60 [.ref l0, l1] [.int s0] H = rn 73 61 [.ref l0, l1] [.ref l0, .int s0] H := rn_nx rfl
theorem x73_61 (l0 l1 : Value) (s0 : Nat) (s1 : Int32) (H : HS) : rn 73 61 [l0, l1] [.ref s0, .int s1] H = gk 73 64 [l0, l1] [.int s1] H (gfd H 4 1 s0) := (rn_ev ..).trans (ev_gk rfl)
theorem x73_64 (l0 l1 : Value) (s0 : Int32) (s1 : Int32) (H : HS) : rn 73 64 [l0, l1] [.int s0, .int s1] H = if s1 < s0 then rn 73 67 [l0, l1] [] H else rn 73 74 [l0, l1] [] H := (rn_ev ..).trans (ev_bin rfl)
theorem x73_67 (l1 : Value) (l0 : Nat) (H : HS) : rn 73 67 [.ref l0, l1] [] H = rn 73 68 [.ref l0, l1] [.ref l0] H := rn_nx rfl
theorem x73_68 (l0 l1 : Value) (s0 : Nat) (H : HS) : rn 73 68 [l0, l1] [.ref s0] H = gk 73 71 [l0, l1] [] H (gfd H 4 2 s0) := (rn_ev ..).trans (ev_gk rfl)
theorem x73_71 (l0 l1 : Value) (s0 : Int32) (H : HS) : rn 73 71 [l0, l1] [.int s0] H = rn 73 75 [l0, l1] [.int s0] H := rn_nx rfl
theorem x73_75 (l0 l1 : Value) (s0 : Int32) (H : HS) : rn 73 75 [l0, l1] [.int s0] H = some (.inl (some (.int s0)), H) := rn_end rfl
theorem x73_74 (l0 l1 : Value) (H : HS) : rn 73 74 [l0, l1] [] H = rn 73 75 [l0, l1] [.int (-1)] H := rn_nx rfl
theorem c73 (a0 : Nat) (H : HS) : rcal 73 [.ref a0] H = rn 73 0 [.ref a0, un] [] H := rfl
theorem x74_0 (l0 : Nat) (H : HS) : rn 74 0 [.ref l0] [] H = rn 74 1 [.ref l0] [.ref l0] H := rn_nx rfl
theorem x74_1 (l0 : Value) (s0 : Nat) (H : HS) : rn 74 1 [l0] [.ref s0] H = rn 74 3 [l0] [.int 59, .ref s0] H := rn_nx rfl
theorem x74_3 (l0 : Value) (s0 : Int32) (s1 : Nat) (H : HS) (h : recv H s1 4 = true) : rn 74 3 [l0] [.int s0, .ref s1] H = bnd true 74 3 [l0] [] (rcal 80 [.ref s1, .int s0] H) := rn_cal (vcal h rfl)
theorem x74_6 (l0 : Value) (s0 : Int32) (H : HS) : rn 74 6 [l0] [.int s0] H = rn 74 7 [l0] [] H := rn_nx rfl
theorem x74_7 (l0 : Nat) (H : HS) : rn 74 7 [.ref l0] [] H = rn 74 8 [.ref l0] [.ref l0] H := rn_nx rfl
theorem x74_8 (l0 : Value) (s0 : Nat) (H : HS) (h : recv H s0 4 = true) : rn 74 8 [l0] [.ref s0] H = bnd true 74 8 [l0] [] (rcal 75 [.ref s0] H) := rn_cal (vcal h rfl)
theorem x74_11 (l0 : Value) (s0 : Int32) (H : HS) : rn 74 11 [l0] [.int s0] H = rn 74 12 [l0] [] H := rn_nx rfl
theorem x74_12 (l0 : Value) (H : HS) : rn 74 12 [l0] [] H = some (.inl none, H) := rn_end rfl
theorem c74 (a0 : Nat) (H : HS) : rcal 74 [.ref a0] H = rn 74 0 [.ref a0] [] H := rfl
theorem x75_0 (l1 l2 l3 l4 l5 l6 : Value) (l0 : Nat) (H : HS) : rn 75 0 [.ref l0, l1, l2, l3, l4, l5, l6] [] H = rn 75 1 [.ref l0, l1, l2, l3, l4, l5, l6] [.ref l0] H := rn_nx rfl
theorem x75_1 (l0 l1 l2 l3 l4 l5 l6 : Value) (s0 : Nat) (H : HS) : rn 75 1 [l0, l1, l2, l3, l4, l5, l6] [.ref s0] H = gk 75 4 [l0, l1, l2, l3, l4, l5, l6] [] H (gfd H 4 2 s0) := (rn_ev ..).trans (ev_gk rfl)
theorem x75_4 (l0 l1 l2 l3 l4 l5 l6 : Value) (s0 : Int32) (H : HS) : rn 75 4 [l0, l1, l2, l3, l4, l5, l6] [.int s0] H = rn 75 5 [(kl l0), .int s0, l2, l3, l4, l5, l6] [] H := rn_nx rfl
theorem x75_5 (l0 l2 l3 l4 l5 l6 : Value) (l1 : Int32) (H : HS) : rn 75 5 [l0, .int l1, l2, l3, l4, l5, l6] [] H = rn 75 6 [l0, .int l1, l2, l3, l4, l5, l6] [.int l1] H := rn_nx rfl
theorem x75_6 (l0 l1 l2 l3 l4 l5 l6 : Value) (s0 : Int32) (H : HS) : rn 75 6 [l0, l1, l2, l3, l4, l5, l6] [.int s0] H = rn 75 7 [l0, (kl l1), .int s0, l3, l4, l5, l6] [] H := rn_nx rfl
theorem x75_7 (l0 l1 l2 l3 l4 l5 l6 : Value) (H : HS) : rn 75 7 [l0, l1, l2, l3, l4, l5, l6] [] H = rn 75 10 [l0, l1, l2, l3, l4, l5, l6] [.ref 12] H := rn_nx rfl
theorem x75_10 (l0 l1 l2 l3 l4 l5 l6 : Value) (s0 : Nat) (H : HS) : rn 75 10 [l0, l1, l2, l3, l4, l5, l6] [.ref s0] H = rn 75 11 [l0, l1, (kl l2), .ref s0, l4, l5, l6] [] H := rn_nx rfl
theorem x75_11 (l0 l1 l2 l4 l5 l6 : Value) (l3 : Nat) (H : HS) : rn 75 11 [l0, l1, l2, .ref l3, l4, l5, l6] [] H = rn 75 12 [l0, l1, l2, .ref l3, l4, l5, l6] [.ref l3] H := rn_nx rfl
theorem x75_12 (l0 l1 l2 l3 l4 l5 l6 : Value) (s0 : Nat) (H : HS) : rn 75 12 [l0, l1, l2, l3, l4, l5, l6] [.ref s0] H = gk 75 13 [l0, l1, l2, l3, l4, l5, l6] [] H (alen H s0) := (rn_ev ..).trans (ev_gk rfl)
theorem x75_13 (l0 l1 l2 l3 l4 l5 l6 : Value) (s0 : Int32) (H : HS) : rn 75 13 [l0, l1, l2, l3, l4, l5, l6] [.int s0] H = rn 75 15 [l0, l1, l2, (kl l3), .int s0, l5, l6] [] H := rn_nx rfl
theorem x75_15 (l0 l1 l2 l3 l4 l5 l6 : Value) (H : HS) : rn 75 15 [l0, l1, l2, l3, l4, l5, l6] [] H = rn 75 16 [l0, l1, l2, l3, l4, l5, l6] [.int 0] H := rn_nx rfl
theorem x75_16 (l0 l1 l2 l3 l4 l5 l6 : Value) (s0 : Int32) (H : HS) : rn 75 16 [l0, l1, l2, l3, l4, l5, l6] [.int s0] H = rn 75 18 [l0, l1, l2, l3, (kl l4), .int s0, l6] [] H := rn_nx rfl
theorem x75_18 (l0 l1 l2 l3 l4 l6 : Value) (l5 : Int32) (H : HS) : rn 75 18 [l0, l1, l2, l3, l4, .int l5, l6] [] H = rn 75 20 [l0, l1, l2, l3, l4, .int l5, l6] [.int l5] H := rn_nx rfl
theorem x75_20 (l0 l1 l2 l3 l5 l6 : Value) (l4 : Int32) (s0 : Int32) (H : HS) : rn 75 20 [l0, l1, l2, l3, .int l4, l5, l6] [.int s0] H = rn 75 22 [l0, l1, l2, l3, .int l4, l5, l6] [.int l4, .int s0] H := rn_nx rfl
theorem x75_22 (l0 l1 l2 l3 l4 l5 l6 : Value) (s0 : Int32) (s1 : Int32) (H : HS) : rn 75 22 [l0, l1, l2, l3, l4, l5, l6] [.int s0, .int s1] H = if s1 < s0 then rn 75 25 [l0, l1, l2, l3, l4, l5, l6] [] H else rn 75 71 [l0, l1, l2, l3, l4, l5, l6] [] H := (rn_ev ..).trans (ev_bin rfl)
theorem x75_25 (l0 l1 l2 l4 l5 l6 : Value) (l3 : Nat) (H : HS) : rn 75 25 [l0, l1, l2, .ref l3, l4, l5, l6] [] H = rn 75 26 [l0, l1, l2, .ref l3, l4, l5, l6] [.ref l3] H := rn_nx rfl
theorem x75_26 (l0 l1 l2 l3 l4 l6 : Value) (l5 : Int32) (s0 : Nat) (H : HS) : rn 75 26 [l0, l1, l2, l3, l4, .int l5, l6] [.ref s0] H = rn 75 28 [l0, l1, l2, l3, l4, .int l5, l6] [.int l5, .ref s0] H := rn_nx rfl
theorem x75_28 (l0 l1 l2 l3 l4 l5 l6 : Value) (s0 : Int32) (s1 : Nat) (H : HS) : rn 75 28 [l0, l1, l2, l3, l4, l5, l6] [.int s0, .ref s1] H = gk 75 29 [l0, l1, l2, l3, l4, l5, l6] [] H (aald H s1 s0) := (rn_ev ..).trans (ev_gk rfl)
theorem x75_29 (l0 l1 l2 l3 l4 l5 l6 : Value) (s0 : Nat) (H : HS) : rn 75 29 [l0, l1, l2, l3, l4, l5, l6] [.ref s0] H = rn 75 31 [l0, l1, l2, l3, l4, (kl l5), .ref s0] [] H := rn_nx rfl
theorem x75_31 (l1 l2 l3 l4 l5 l6 : Value) (l0 : Nat) (H : HS) : rn 75 31 [.ref l0, l1, l2, l3, l4, l5, l6] [] H = rn 75 32 [.ref l0, l1, l2, l3, l4, l5, l6] [.ref l0] H := rn_nx rfl
theorem x75_32 (l0 l2 l3 l4 l5 l6 : Value) (l1 : Int32) (s0 : Nat) (H : HS) : rn 75 32 [l0, .int l1, l2, l3, l4, l5, l6] [.ref s0] H = rn 75 33 [l0, .int l1, l2, l3, l4, l5, l6] [.int l1, .ref s0] H := rn_nx rfl
theorem x75_33 (l0 l1 l2 l3 l4 l5 l6 : Value) (s0 : Int32) (s1 : Nat) (H : HS) : rn 75 33 [l0, l1, l2, l3, l4, l5, l6] [.int s0, .ref s1] H = pk 75 36 [l0, l1, l2, l3, l4, l5, l6] [] (pfd H true 4 2 s1 (.int s0)) := (rn_ev ..).trans (ev_pk rfl)
theorem x75_36 (l1 l2 l3 l4 l5 l6 : Value) (l0 : Nat) (H : HS) : rn 75 36 [.ref l0, l1, l2, l3, l4, l5, l6] [] H = rn 75 37 [.ref l0, l1, l2, l3, l4, l5, l6] [.ref l0] H := rn_nx rfl
theorem x75_37 (l0 l1 l2 l3 l4 l5 : Value) (l6 : Nat) (s0 : Nat) (H : HS) : rn 75 37 [l0, l1, l2, l3, l4, l5, .ref l6] [.ref s0] H = rn 75 39 [l0, l1, l2, l3, l4, l5, .ref l6] [.ref l6, .ref s0] H := rn_nx rfl
theorem x75_39 (l0 l1 l2 l3 l4 l5 l6 : Value) (s0 : Nat) (s1 : Nat) (H : HS) : rn 75 39 [l0, l1, l2, l3, l4, l5, l6] [.ref s0, .ref s1] H = gk 75 42 [l0, l1, l2, l3, l4, l5, l6] [.ref s1] H (gfd H 8 1 s0) := (rn_ev ..).trans (ev_gk rfl)
theorem x75_42 (l0 l1 l2 l3 l4 l5 l6 : Value) (s0 : Nat) (s1 : Nat) (H : HS) (h : recv H s1 4 = true) : rn 75 42 [l0, l1, l2, l3, l4, l5, l6] [.ref s0, .ref s1] H = bnd true 75 42 [l0, l1, l2, l3, l4, l5, l6] [] (rcal 76 [.ref s1, .ref s0] H) := rn_cal (vcal h rfl)
theorem x75_45 (l0 l1 l2 l3 l4 l5 l6 : Value) (s0 : Int32) (H : HS) : rn 75 45 [l0, l1, l2, l3, l4, l5, l6] [.int s0] H = if s0 = 0 then rn 75 56 [l0, l1, l2, l3, l4, l5, l6] [] H else rn 75 48 [l0, l1, l2, l3, l4, l5, l6] [] H := (rn_ev ..).trans (ev_bif rfl)
theorem x75_48 (l1 l2 l3 l4 l5 l6 : Value) (l0 : Nat) (H : HS) : rn 75 48 [.ref l0, l1, l2, l3, l4, l5, l6] [] H = rn 75 49 [.ref l0, l1, l2, l3, l4, l5, l6] [.ref l0] H := rn_nx rfl
theorem x75_49 (l0 l1 l2 l3 l4 l5 : Value) (l6 : Nat) (s0 : Nat) (H : HS) : rn 75 49 [l0, l1, l2, l3, l4, l5, .ref l6] [.ref s0] H = rn 75 51 [l0, l1, l2, l3, l4, l5, .ref l6] [.ref l6, .ref s0] H := rn_nx rfl
theorem x75_51 (l0 l1 l2 l3 l4 l5 l6 : Value) (s0 : Nat) (s1 : Nat) (H : HS) : rn 75 51 [l0, l1, l2, l3, l4, l5, l6] [.ref s0, .ref s1] H = pk 75 54 [l0, l1, l2, l3, l4, l5, l6] [] (pfd H true 4 4 s1 (.ref s0)) := (rn_ev ..).trans (ev_pk rfl)
theorem x75_54 (l0 l1 l2 l3 l4 l5 l6 : Value) (H : HS) : rn 75 54 [l0, l1, l2, l3, l4, l5, l6] [] H = rn 75 55 [l0, l1, l2, l3, l4, l5, l6] [.int 1] H := rn_nx rfl
theorem x75_55 (l0 l1 l2 l3 l4 l5 l6 : Value) (s0 : Int32) (H : HS) : rn 75 55 [l0, l1, l2, l3, l4, l5, l6] [.int s0] H = if fitp 1 (.int s0) = true then some (.inl (some (.int s0)), H) else none := (rn_ev ..).trans (ev_ret rfl)
theorem x75_56 (l0 l1 l3 l4 l5 l6 : Value) (l2 : Int32) (H : HS) : rn 75 56 [l0, l1, .int l2, l3, l4, l5, l6] [] H = rn 75 57 [l0, l1, .int l2, l3, l4, l5, l6] [.int l2] H := rn_nx rfl
theorem x75_57 (l1 l2 l3 l4 l5 l6 : Value) (l0 : Nat) (s0 : Int32) (H : HS) : rn 75 57 [.ref l0, l1, l2, l3, l4, l5, l6] [.int s0] H = rn 75 58 [.ref l0, l1, l2, l3, l4, l5, l6] [.ref l0, .int s0] H := rn_nx rfl
theorem x75_58 (l0 l1 l2 l3 l4 l5 l6 : Value) (s0 : Nat) (s1 : Int32) (H : HS) : rn 75 58 [l0, l1, l2, l3, l4, l5, l6] [.ref s0, .int s1] H = gk 75 61 [l0, l1, l2, l3, l4, l5, l6] [.int s1] H (gfd H 4 2 s0) := (rn_ev ..).trans (ev_gk rfl)
theorem x75_61 (l0 l1 l2 l3 l4 l5 l6 : Value) (s0 : Int32) (s1 : Int32) (H : HS) : rn 75 61 [l0, l1, l2, l3, l4, l5, l6] [.int s0, .int s1] H = rn 75 64 [l0, l1, l2, l3, l4, l5, l6] [.int (if s1 < s0 then s0 else s1)] H := rn_nx rfl
theorem x75_64 (l0 l1 l2 l3 l4 l5 l6 : Value) (s0 : Int32) (H : HS) : rn 75 64 [l0, l1, l2, l3, l4, l5, l6] [.int s0] H = rn 75 65 [l0, (kl l1), .int s0, l3, l4, l5, l6] [] H := rn_nx rfl
theorem x75_65 (l0 l1 l2 l3 l4 l6 : Value) (l5 : Int32) (H : HS) : rn 75 65 [l0, l1, l2, l3, l4, .int l5, l6] [] H = rn 75 68 [l0, l1, l2, l3, (kl l4), .int (l5 + 1), l6] [] H := rn_nx rfl
theorem x75_68 (l0 l1 l2 l3 l4 l5 l6 : Value) (H : HS) : rn 75 68 [l0, l1, l2, l3, l4, l5, l6] [] H = rn 75 18 [l0, l1, l2, l3, l4, l5, l6] [] H := rn_nx rfl
theorem x75_71 (l1 l2 l3 l4 l5 l6 : Value) (l0 : Nat) (H : HS) : rn 75 71 [.ref l0, l1, l2, l3, l4, l5, l6] [] H = rn 75 72 [.ref l0, l1, l2, l3, l4, l5, l6] [.ref l0] H := rn_nx rfl
theorem x75_72 (l0 l1 l3 l4 l5 l6 : Value) (l2 : Int32) (s0 : Nat) (H : HS) : rn 75 72 [l0, l1, .int l2, l3, l4, l5, l6] [.ref s0] H = rn 75 73 [l0, l1, .int l2, l3, l4, l5, l6] [.int l2, .ref s0] H := rn_nx rfl
theorem x75_73 (l0 l1 l2 l3 l4 l5 l6 : Value) (s0 : Int32) (s1 : Nat) (H : HS) : rn 75 73 [l0, l1, l2, l3, l4, l5, l6] [.int s0, .ref s1] H = pk 75 76 [l0, l1, l2, l3, l4, l5, l6] [] (pfd H true 4 2 s1 (.int s0)) := (rn_ev ..).trans (ev_pk rfl)
theorem x75_76 (l0 l1 l2 l3 l4 l5 l6 : Value) (H : HS) : rn 75 76 [l0, l1, l2, l3, l4, l5, l6] [] H = rn 75 77 [l0, l1, l2, l3, l4, l5, l6] [.int 0] H := rn_nx rfl
theorem x75_77 (l0 l1 l2 l3 l4 l5 l6 : Value) (s0 : Int32) (H : HS) : rn 75 77 [l0, l1, l2, l3, l4, l5, l6] [.int s0] H = if fitp 1 (.int s0) = true then some (.inl (some (.int s0)), H) else none := (rn_ev ..).trans (ev_ret rfl)
theorem c75 (a0 : Nat) (H : HS) : rcal 75 [.ref a0] H = rn 75 0 [.ref a0, un, un, un, un, un, un] [] H := rfl
theorem x76_0 (l1 l2 : Value) (l0 : Nat) (H : HS) : rn 76 0 [.ref l0, l1, l2] [] H = rn 76 1 [.ref l0, l1, l2] [.ref l0] H := rn_nx rfl
theorem x76_1 (l0 l1 l2 : Value) (s0 : Nat) (H : HS) : rn 76 1 [l0, l1, l2] [.ref s0] H = rn 76 2 [l0, l1, l2] [.int 0, .ref s0] H := rn_nx rfl
theorem x76_2 (l0 l1 l2 : Value) (s0 : Int32) (s1 : Nat) (H : HS) : rn 76 2 [l0, l1, l2] [.int s0, .ref s1] H = pk 76 5 [l0, l1, l2] [] (pfd H true 4 6 s1 (.int s0)) := (rn_ev ..).trans (ev_pk rfl)
theorem x76_5 (l0 l1 l2 : Value) (H : HS) : rn 76 5 [l0, l1, l2] [] H = rn 76 6 [l0, l1, l2] [.int 0] H := rn_nx rfl
theorem x76_6 (l0 l1 l2 : Value) (s0 : Int32) (H : HS) : rn 76 6 [l0, l1, l2] [.int s0] H = rn 76 7 [l0, (kl l1), .int s0] [] H := rn_nx rfl
theorem x76_7 (l0 l1 : Value) (l2 : Int32) (H : HS) : rn 76 7 [l0, l1, .int l2] [] H = rn 76 8 [l0, l1, .int l2] [.int l2] H := rn_nx rfl
theorem x76_8 (l0 l2 : Value) (l1 : Nat) (s0 : Int32) (H : HS) : rn 76 8 [l0, .ref l1, l2] [.int s0] H = rn 76 9 [l0, .ref l1, l2] [.ref l1, .int s0] H := rn_nx rfl
theorem x76_9 (l0 l1 l2 : Value) (s0 : Nat) (s1 : Int32) (H : HS) (h : recv H s0 7 = true) : rn 76 9 [l0, l1, l2] [.ref s0, .int s1] H = bnd true 76 9 [l0, l1, l2] [.int s1] (rcal 13 [.ref s0] H) := rn_cal (vcal h rfl)
theorem x76_12 (l0 l1 l2 : Value) (s0 : Int32) (s1 : Int32) (H : HS) : rn 76 12 [l0, l1, l2] [.int s0, .int s1] H = if s1 < s0 then rn 76 15 [l0, l1, l2] [] H else rn 76 35 [l0, l1, l2] [] H := (rn_ev ..).trans (ev_bin rfl)
theorem x76_15 (l1 l2 : Value) (l0 : Nat) (H : HS) : rn 76 15 [.ref l0, l1, l2] [] H = rn 76 16 [.ref l0, l1, l2] [.ref l0] H := rn_nx rfl
theorem x76_16 (l0 l2 : Value) (l1 : Nat) (s0 : Nat) (H : HS) : rn 76 16 [l0, .ref l1, l2] [.ref s0] H = rn 76 17 [l0, .ref l1, l2] [.ref l1, .ref s0] H := rn_nx rfl
theorem x76_17 (l0 l1 : Value) (l2 : Int32) (s0 : Nat) (s1 : Nat) (H : HS) : rn 76 17 [l0, l1, .int l2] [.ref s0, .ref s1] H = rn 76 18 [l0, l1, .int l2] [.int l2, .ref s0, .ref s1] H := rn_nx rfl
theorem x76_18 (l0 l1 l2 : Value) (s0 : Int32) (s1 : Nat) (s2 : Nat) (H : HS) (h : recv H s1 7 = true) : rn 76 18 [l0, l1, l2] [.int s0, .ref s1, .ref s2] H = bnd true 76 18 [l0, l1, l2] [.ref s2] (rcal 14 [.ref s1, .int s0] H) := rn_cal (vcal h rfl)
theorem x76_21 (l0 l1 l2 : Value) (s0 : Int32) (s1 : Nat) (H : HS) (h : recv H s1 4 = true) : rn 76 21 [l0, l1, l2] [.int s0, .ref s1] H = bnd true 76 21 [l0, l1, l2] [] (rcal 77 [.ref s1, .int s0] H) := rn_cal (vcal h rfl)
theorem x76_24 (l0 l1 l2 : Value) (s0 : Int32) (H : HS) : rn 76 24 [l0, l1, l2] [.int s0] H = if s0 = 0 then rn 76 27 [l0, l1, l2] [] H else rn 76 29 [l0, l1, l2] [] H := (rn_ev ..).trans (ev_bin rfl)
theorem x76_27 (l0 l1 l2 : Value) (H : HS) : rn 76 27 [l0, l1, l2] [] H = rn 76 28 [l0, l1, l2] [.int 0] H := rn_nx rfl
theorem x76_28 (l0 l1 l2 : Value) (s0 : Int32) (H : HS) : rn 76 28 [l0, l1, l2] [.int s0] H = if fitp 1 (.int s0) = true then some (.inl (some (.int s0)), H) else none := (rn_ev ..).trans (ev_ret rfl)
theorem x76_29 (l0 l1 : Value) (l2 : Int32) (H : HS) : rn 76 29 [l0, l1, .int l2] [] H = rn 76 32 [l0, (kl l1), .int (l2 + 1)] [] H := rn_nx rfl
theorem x76_32 (l0 l1 l2 : Value) (H : HS) : rn 76 32 [l0, l1, l2] [] H = rn 76 7 [l0, l1, l2] [] H := rn_nx rfl
theorem x76_35 (l0 l1 l2 : Value) (H : HS) : rn 76 35 [l0, l1, l2] [] H = rn 76 36 [l0, l1, l2] [.int 1] H := rn_nx rfl
theorem x76_36 (l0 l1 l2 : Value) (s0 : Int32) (H : HS) : rn 76 36 [l0, l1, l2] [.int s0] H = if fitp 1 (.int s0) = true then some (.inl (some (.int s0)), H) else none := (rn_ev ..).trans (ev_ret rfl)
theorem c76 (a0 : Nat) (a1 : Nat) (H : HS) : rcal 76 [.ref a0, .ref a1] H = rn 76 0 [.ref a0, .ref a1, un] [] H := rfl
theorem x77_0 (l0 : Value) (l1 : Int32) (H : HS) : rn 77 0 [l0, .int l1] [] H = rn 77 1 [l0, .int l1] [.int l1] H := rn_nx rfl
theorem x77_1 (l0 l1 : Value) (s0 : Int32) (H : HS) : rn 77 1 [l0, l1] [.int s0] H = rn 77 3 [l0, l1] [.int 35, .int s0] H := rn_nx rfl
theorem x77_3 (l0 l1 : Value) (s0 : Int32) (s1 : Int32) (H : HS) : rn 77 3 [l0, l1] [.int s0, .int s1] H = if s1 = s0 then rn 77 6 [l0, l1] [] H else rn 77 12 [l0, l1] [] H := (rn_ev ..).trans (ev_bin rfl)
theorem x77_6 (l1 : Value) (l0 : Nat) (H : HS) : rn 77 6 [.ref l0, l1] [] H = rn 77 7 [.ref l0, l1] [.ref l0] H := rn_nx rfl
theorem x77_7 (l0 l1 : Value) (s0 : Nat) (H : HS) : rn 77 7 [l0, l1] [.ref s0] H = rn 77 8 [l0, l1] [.int 1, .ref s0] H := rn_nx rfl
theorem x77_8 (l0 l1 : Value) (s0 : Int32) (s1 : Nat) (H : HS) (h : recv H s1 4 = true) : rn 77 8 [l0, l1] [.int s0, .ref s1] H = bnd true 77 8 [l0, l1] [] (rcal 78 [.ref s1, .int s0] H) := rn_cal (vcal h rfl)
theorem x77_11 (l0 l1 : Value) (s0 : Int32) (H : HS) : rn 77 11 [l0, l1] [.int s0] H = if fitp 1 (.int s0) = true then some (.inl (some (.int s0)), H) else none := (rn_ev ..).trans (ev_ret rfl)
theorem x77_12 (l0 : Value) (l1 : Int32) (H : HS) : rn 77 12 [l0, .int l1] [] H = rn 77 13 [l0, .int l1] [.int l1] H := rn_nx rfl
theorem x77_13 (l0 l1 : Value) (s0 : Int32) (H : HS) : rn 77 13 [l0, l1] [.int s0] H = rn 77 15 [l0, l1] [.int 37, .int s0] H := rn_nx rfl
theorem x77_15 (l0 l1 : Value) (s0 : Int32) (s1 : Int32) (H : HS) : rn 77 15 [l0, l1] [.int s0, .int s1] H = if s1 = s0 then rn 77 18 [l0, l1] [] H else rn 77 24 [l0, l1] [] H := (rn_ev ..).trans (ev_bin rfl)
theorem x77_18 (l1 : Value) (l0 : Nat) (H : HS) : rn 77 18 [.ref l0, l1] [] H = rn 77 19 [.ref l0, l1] [.ref l0] H := rn_nx rfl
theorem x77_19 (l0 l1 : Value) (s0 : Nat) (H : HS) : rn 77 19 [l0, l1] [.ref s0] H = rn 77 20 [l0, l1] [.int 2, .ref s0] H := rn_nx rfl
theorem x77_20 (l0 l1 : Value) (s0 : Int32) (s1 : Nat) (H : HS) (h : recv H s1 4 = true) : rn 77 20 [l0, l1] [.int s0, .ref s1] H = bnd true 77 20 [l0, l1] [] (rcal 78 [.ref s1, .int s0] H) := rn_cal (vcal h rfl)
theorem x77_23 (l0 l1 : Value) (s0 : Int32) (H : HS) : rn 77 23 [l0, l1] [.int s0] H = if fitp 1 (.int s0) = true then some (.inl (some (.int s0)), H) else none := (rn_ev ..).trans (ev_ret rfl)
theorem x77_24 (l1 : Value) (l0 : Nat) (H : HS) : rn 77 24 [.ref l0, l1] [] H = rn 77 25 [.ref l0, l1] [.ref l0] H := rn_nx rfl
theorem x77_25 (l0 : Value) (l1 : Int32) (s0 : Nat) (H : HS) : rn 77 25 [l0, .int l1] [.ref s0] H = rn 77 26 [l0, .int l1] [.int l1, .ref s0] H := rn_nx rfl
theorem x77_26 (l0 l1 : Value) (s0 : Int32) (s1 : Nat) (H : HS) (h : recv H s1 4 = true) : rn 77 26 [l0, l1] [.int s0, .ref s1] H = bnd true 77 26 [l0, l1] [] (rcal 80 [.ref s1, .int s0] H) := rn_cal (vcal h rfl)
theorem x77_29 (l0 l1 : Value) (s0 : Int32) (H : HS) : rn 77 29 [l0, l1] [.int s0] H = if fitp 1 (.int s0) = true then some (.inl (some (.int s0)), H) else none := (rn_ev ..).trans (ev_ret rfl)
theorem c77 (a0 : Nat) (a1 : Int32) (H : HS) : rcal 77 [.ref a0, .int a1] H = rn 77 0 [.ref a0, .int a1] [] H := rfl
theorem x78_0 (l0 l1 l2 l3 : Value) (H : HS) : rn 78 0 [l0, l1, l2, l3] [] H = rn 78 1 [l0, l1, l2, l3] [.int 0] H := rn_nx rfl
theorem x78_1 (l0 l1 l2 l3 : Value) (s0 : Int32) (H : HS) : rn 78 1 [l0, l1, l2, l3] [.int s0] H = rn 78 2 [l0, (kl l1), .int s0, l3] [] H := rn_nx rfl
theorem x78_2 (l0 l1 l2 l3 : Value) (H : HS) : rn 78 2 [l0, l1, l2, l3] [] H = rn 78 3 [l0, l1, l2, l3] [.int 0] H := rn_nx rfl
theorem x78_3 (l0 l1 l2 l3 : Value) (s0 : Int32) (H : HS) : rn 78 3 [l0, l1, l2, l3] [.int s0] H = rn 78 4 [l0, l1, (kl l2), .int s0] [] H := rn_nx rfl
theorem x78_4 (l0 l1 l3 : Value) (l2 : Int32) (H : HS) : rn 78 4 [l0, l1, .int l2, l3] [] H = rn 78 5 [l0, l1, .int l2, l3] [.int l2] H := rn_nx rfl
theorem x78_5 (l0 l2 l3 : Value) (l1 : Int32) (s0 : Int32) (H : HS) : rn 78 5 [l0, .int l1, l2, l3] [.int s0] H = rn 78 6 [l0, .int l1, l2, l3] [.int l1, .int s0] H := rn_nx rfl
theorem x78_6 (l0 l1 l2 l3 : Value) (s0 : Int32) (s1 : Int32) (H : HS) : rn 78 6 [l0, l1, l2, l3] [.int s0, .int s1] H = if s1 < s0 then rn 78 9 [l0, l1, l2, l3] [] H else rn 78 50 [l0, l1, l2, l3] [] H := (rn_ev ..).trans (ev_bin rfl)
theorem x78_9 (l1 l2 l3 : Value) (l0 : Nat) (H : HS) : rn 78 9 [.ref l0, l1, l2, l3] [] H = rn 78 10 [.ref l0, l1, l2, l3] [.ref l0] H := rn_nx rfl
theorem x78_10 (l0 l1 l2 l3 : Value) (s0 : Nat) (H : HS) (h : recv H s0 4 = true) : rn 78 10 [l0, l1, l2, l3] [.ref s0] H = bnd true 78 10 [l0, l1, l2, l3] [] (rcal 79 [.ref s0] H) := rn_cal (vcal h rfl)
theorem x78_13 (l0 l1 l2 l3 : Value) (s0 : Int32) (H : HS) : rn 78 13 [l0, l1, l2, l3] [.int s0] H = if s0 = 0 then rn 78 50 [l0, l1, l2, l3] [] H else rn 78 16 [l0, l1, l2, l3] [] H := (rn_ev ..).trans (ev_bif rfl)
theorem x78_16 (l0 l1 l2 : Value) (l3 : Int32) (H : HS) : rn 78 16 [l0, l1, l2, .int l3] [] H = rn 78 17 [l0, l1, l2, .int l3] [.int l3] H := rn_nx rfl
theorem x78_17 (l0 l1 l2 l3 : Value) (s0 : Int32) (H : HS) : rn 78 17 [l0, l1, l2, l3] [.int s0] H = rn 78 19 [l0, l1, l2, l3] [.int 10, .int s0] H := rn_nx rfl
theorem x78_19 (l0 l1 l2 l3 : Value) (s0 : Int32) (s1 : Int32) (H : HS) : rn 78 19 [l0, l1, l2, l3] [.int s0, .int s1] H = rn 78 20 [l0, l1, l2, l3] [.int (s1 * s0)] H := rn_nx rfl
theorem x78_20 (l1 l2 l3 : Value) (l0 : Nat) (s0 : Int32) (H : HS) : rn 78 20 [.ref l0, l1, l2, l3] [.int s0] H = rn 78 21 [.ref l0, l1, l2, l3] [.ref l0, .int s0] H := rn_nx rfl
theorem x78_21 (l0 l1 l2 l3 : Value) (s0 : Nat) (s1 : Int32) (H : HS) : rn 78 21 [l0, l1, l2, l3] [.ref s0, .int s1] H = gk 78 24 [l0, l1, l2, l3] [.int s1] H (gfd H 4 0 s0) := (rn_ev ..).trans (ev_gk rfl)
theorem x78_24 (l1 l2 l3 : Value) (l0 : Nat) (s0 : Nat) (s1 : Int32) (H : HS) : rn 78 24 [.ref l0, l1, l2, l3] [.ref s0, .int s1] H = rn 78 25 [.ref l0, l1, l2, l3] [.ref l0, .ref s0, .int s1] H := rn_nx rfl
theorem x78_25 (l0 l1 l2 l3 : Value) (s0 : Nat) (s1 : Nat) (s2 : Int32) (H : HS) : rn 78 25 [l0, l1, l2, l3] [.ref s0, .ref s1, .int s2] H = gk 78 28 [l0, l1, l2, l3] [.ref s1, .int s2] H (gfd H 4 2 s0) := (rn_ev ..).trans (ev_gk rfl)
theorem x78_28 (l0 l1 l2 l3 : Value) (s0 : Int32) (s1 : Nat) (s2 : Int32) (H : HS) : rn 78 28 [l0, l1, l2, l3] [.int s0, .ref s1, .int s2] H = gk 78 29 [l0, l1, l2, l3] [.int s2] H (ald H 101 s1 s0) := (rn_ev ..).trans (ev_gk rfl)
theorem x78_29 (l0 l1 l2 l3 : Value) (s0 : Int32) (s1 : Int32) (H : HS) : rn 78 29 [l0, l1, l2, l3] [.int s0, .int s1] H = rn 78 31 [l0, l1, l2, l3] [.int 48, .int s0, .int s1] H := rn_nx rfl
theorem x78_31 (l0 l1 l2 l3 : Value) (s0 : Int32) (s1 : Int32) (s2 : Int32) (H : HS) : rn 78 31 [l0, l1, l2, l3] [.int s0, .int s1, .int s2] H = rn 78 32 [l0, l1, l2, l3] [.int (s1 - s0), .int s2] H := rn_nx rfl
theorem x78_32 (l0 l1 l2 l3 : Value) (s0 : Int32) (s1 : Int32) (H : HS) : rn 78 32 [l0, l1, l2, l3] [.int s0, .int s1] H = rn 78 33 [l0, l1, l2, l3] [.int (s1 + s0)] H := rn_nx rfl
theorem x78_33 (l0 l1 l2 l3 : Value) (s0 : Int32) (H : HS) : rn 78 33 [l0, l1, l2, l3] [.int s0] H = rn 78 34 [l0, l1, (kl l2), .int s0] [] H := rn_nx rfl
theorem x78_34 (l1 l2 l3 : Value) (l0 : Nat) (H : HS) : rn 78 34 [.ref l0, l1, l2, l3] [] H = rn 78 35 [.ref l0, l1, l2, l3] [.ref l0] H := rn_nx rfl
theorem x78_35 (l0 l1 l2 l3 : Value) (s0 : Nat) (H : HS) : rn 78 35 [l0, l1, l2, l3] [.ref s0] H = rn 78 36 [l0, l1, l2, l3] [.ref s0, .ref s0] H := rn_nx rfl
theorem x78_36 (l0 l1 l2 l3 : Value) (s0 : Nat) (s1 : Nat) (H : HS) : rn 78 36 [l0, l1, l2, l3] [.ref s0, .ref s1] H = gk 78 39 [l0, l1, l2, l3] [.ref s1] H (gfd H 4 2 s0) := (rn_ev ..).trans (ev_gk rfl)
theorem x78_39 (l0 l1 l2 l3 : Value) (s0 : Int32) (s1 : Nat) (H : HS) : rn 78 39 [l0, l1, l2, l3] [.int s0, .ref s1] H = rn 78 40 [l0, l1, l2, l3] [.int 1, .int s0, .ref s1] H := rn_nx rfl
theorem x78_40 (l0 l1 l2 l3 : Value) (s0 : Int32) (s1 : Int32) (s2 : Nat) (H : HS) : rn 78 40 [l0, l1, l2, l3] [.int s0, .int s1, .ref s2] H = rn 78 41 [l0, l1, l2, l3] [.int (s1 + s0), .ref s2] H := rn_nx rfl
theorem x78_41 (l0 l1 l2 l3 : Value) (s0 : Int32) (s1 : Nat) (H : HS) : rn 78 41 [l0, l1, l2, l3] [.int s0, .ref s1] H = pk 78 44 [l0, l1, l2, l3] [] (pfd H true 4 2 s1 (.int s0)) := (rn_ev ..).trans (ev_pk rfl)
theorem x78_44 (l0 l1 l3 : Value) (l2 : Int32) (H : HS) : rn 78 44 [l0, l1, .int l2, l3] [] H = rn 78 47 [l0, (kl l1), .int (l2 + 1), l3] [] H := rn_nx rfl
theorem x78_47 (l0 l1 l2 l3 : Value) (H : HS) : rn 78 47 [l0, l1, l2, l3] [] H = rn 78 4 [l0, l1, l2, l3] [] H := rn_nx rfl
theorem x78_50 (l0 l1 l3 : Value) (l2 : Int32) (H : HS) : rn 78 50 [l0, l1, .int l2, l3] [] H = rn 78 51 [l0, l1, .int l2, l3] [.int l2] H := rn_nx rfl
theorem x78_51 (l0 l1 l2 l3 : Value) (s0 : Int32) (H : HS) : rn 78 51 [l0, l1, l2, l3] [.int s0] H = if s0 = 0 then rn 78 62 [l0, l1, l2, l3] [] H else rn 78 54 [l0, l1, l2, l3] [] H := (rn_ev ..).trans (ev_bif rfl)
theorem x78_54 (l1 l2 l3 : Value) (l0 : Nat) (H : HS) : rn 78 54 [.ref l0, l1, l2, l3] [] H = rn 78 55 [.ref l0, l1, l2, l3] [.ref l0] H := rn_nx rfl
theorem x78_55 (l0 l1 l2 l3 : Value) (s0 : Nat) (H : HS) : rn 78 55 [l0, l1, l2, l3] [.ref s0] H = gk 78 58 [l0, l1, l2, l3] [] H (gfd H 4 6 s0) := (rn_ev ..).trans (ev_gk rfl)
theorem x78_58 (l0 l1 l2 l3 : Value) (s0 : Int32) (H : HS) : rn 78 58 [l0, l1, l2, l3] [.int s0] H = rn 78 59 [l0, l1, l2, l3] [.int 3, .int s0] H := rn_nx rfl
theorem x78_59 (l0 l1 l2 l3 : Value) (s0 : Int32) (s1 : Int32) (H : HS) : rn 78 59 [l0, l1, l2, l3] [.int s0, .int s1] H = if s1 < s0 then rn 78 64 [l0, l1, l2, l3] [] H else rn 78 62 [l0, l1, l2, l3] [] H := (rn_ev ..).trans (ev_bif rfl)
theorem x78_62 (l0 l1 l2 l3 : Value) (H : HS) : rn 78 62 [l0, l1, l2, l3] [] H = rn 78 63 [l0, l1, l2, l3] [.int 0] H := rn_nx rfl
theorem x78_63 (l0 l1 l2 l3 : Value) (s0 : Int32) (H : HS) : rn 78 63 [l0, l1, l2, l3] [.int s0] H = if fitp 1 (.int s0) = true then some (.inl (some (.int s0)), H) else none := (rn_ev ..).trans (ev_ret rfl)
theorem x78_64 (l1 l2 l3 : Value) (l0 : Nat) (H : HS) : rn 78 64 [.ref l0, l1, l2, l3] [] H = rn 78 65 [.ref l0, l1, l2, l3] [.ref l0] H := rn_nx rfl
theorem x78_65 (l0 l1 l2 l3 : Value) (s0 : Nat) (H : HS) : rn 78 65 [l0, l1, l2, l3] [.ref s0] H = gk 78 68 [l0, l1, l2, l3] [] H (gfd H 4 5 s0) := (rn_ev ..).trans (ev_gk rfl)
theorem x78_68 (l1 l2 l3 : Value) (l0 : Nat) (s0 : Nat) (H : HS) : rn 78 68 [.ref l0, l1, l2, l3] [.ref s0] H = rn 78 69 [.ref l0, l1, l2, l3] [.ref l0, .ref s0] H := rn_nx rfl
theorem x78_69 (l0 l1 l2 l3 : Value) (s0 : Nat) (s1 : Nat) (H : HS) : rn 78 69 [l0, l1, l2, l3] [.ref s0, .ref s1] H = gk 78 72 [l0, l1, l2, l3] [.ref s1] H (gfd H 4 6 s0) := (rn_ev ..).trans (ev_gk rfl)
theorem x78_72 (l0 l1 l2 : Value) (l3 : Int32) (s0 : Int32) (s1 : Nat) (H : HS) : rn 78 72 [l0, l1, l2, .int l3] [.int s0, .ref s1] H = rn 78 73 [l0, l1, l2, .int l3] [.int l3, .int s0, .ref s1] H := rn_nx rfl
theorem x78_73 (l0 l1 l2 l3 : Value) (s0 : Int32) (s1 : Int32) (s2 : Nat) (H : HS) : rn 78 73 [l0, l1, l2, l3] [.int s0, .int s1, .ref s2] H = pk 78 74 [l0, l1, l2, l3] [] (ast H 100 s2 s1 (.int s0)) := (rn_ev ..).trans (ev_pk rfl)
theorem x78_74 (l1 l2 l3 : Value) (l0 : Nat) (H : HS) : rn 78 74 [.ref l0, l1, l2, l3] [] H = rn 78 75 [.ref l0, l1, l2, l3] [.ref l0] H := rn_nx rfl
theorem x78_75 (l0 l1 l2 l3 : Value) (s0 : Nat) (H : HS) : rn 78 75 [l0, l1, l2, l3] [.ref s0] H = rn 78 76 [l0, l1, l2, l3] [.ref s0, .ref s0] H := rn_nx rfl
theorem x78_76 (l0 l1 l2 l3 : Value) (s0 : Nat) (s1 : Nat) (H : HS) : rn 78 76 [l0, l1, l2, l3] [.ref s0, .ref s1] H = gk 78 79 [l0, l1, l2, l3] [.ref s1] H (gfd H 4 6 s0) := (rn_ev ..).trans (ev_gk rfl)
theorem x78_79 (l0 l1 l2 l3 : Value) (s0 : Int32) (s1 : Nat) (H : HS) : rn 78 79 [l0, l1, l2, l3] [.int s0, .ref s1] H = rn 78 80 [l0, l1, l2, l3] [.int 1, .int s0, .ref s1] H := rn_nx rfl
theorem x78_80 (l0 l1 l2 l3 : Value) (s0 : Int32) (s1 : Int32) (s2 : Nat) (H : HS) : rn 78 80 [l0, l1, l2, l3] [.int s0, .int s1, .ref s2] H = rn 78 81 [l0, l1, l2, l3] [.int (s1 + s0), .ref s2] H := rn_nx rfl
theorem x78_81 (l0 l1 l2 l3 : Value) (s0 : Int32) (s1 : Nat) (H : HS) : rn 78 81 [l0, l1, l2, l3] [.int s0, .ref s1] H = pk 78 84 [l0, l1, l2, l3] [] (pfd H true 4 6 s1 (.int s0)) := (rn_ev ..).trans (ev_pk rfl)
theorem x78_84 (l0 l1 l2 l3 : Value) (H : HS) : rn 78 84 [l0, l1, l2, l3] [] H = rn 78 85 [l0, l1, l2, l3] [.int 1] H := rn_nx rfl
theorem x78_85 (l0 l1 l2 l3 : Value) (s0 : Int32) (H : HS) : rn 78 85 [l0, l1, l2, l3] [.int s0] H = if fitp 1 (.int s0) = true then some (.inl (some (.int s0)), H) else none := (rn_ev ..).trans (ev_ret rfl)
theorem c78 (a0 : Nat) (a1 : Int32) (H : HS) : rcal 78 [.ref a0, .int a1] H = rn 78 0 [.ref a0, .int a1, un, un] [] H := rfl
theorem x79_0 (l0 : Nat) (H : HS) : rn 79 0 [.ref l0] [] H = rn 79 1 [.ref l0] [.ref l0] H := rn_nx rfl
theorem x79_1 (l0 : Value) (s0 : Nat) (H : HS) : rn 79 1 [l0] [.ref s0] H = gk 79 4 [l0] [] H (gfd H 4 2 s0) := (rn_ev ..).trans (ev_gk rfl)
theorem x79_4 (l0 : Nat) (s0 : Int32) (H : HS) : rn 79 4 [.ref l0] [.int s0] H = rn 79 5 [.ref l0] [.ref l0, .int s0] H := rn_nx rfl
theorem x79_5 (l0 : Value) (s0 : Nat) (s1 : Int32) (H : HS) : rn 79 5 [l0] [.ref s0, .int s1] H = gk 79 8 [l0] [.int s1] H (gfd H 4 1 s0) := (rn_ev ..).trans (ev_gk rfl)
theorem x79_8 (l0 : Value) (s0 : Int32) (s1 : Int32) (H : HS) : rn 79 8 [l0] [.int s0, .int s1] H = if s1 < s0 then rn 79 11 [l0] [] H else rn 79 43 [l0] [] H := (rn_ev ..).trans (ev_bin rfl)
theorem x79_11 (l0 : Nat) (H : HS) : rn 79 11 [.ref l0] [] H = rn 79 12 [.ref l0] [.ref l0] H := rn_nx rfl
theorem x79_12 (l0 : Value) (s0 : Nat) (H : HS) : rn 79 12 [l0] [.ref s0] H = gk 79 15 [l0] [] H (gfd H 4 0 s0) := (rn_ev ..).trans (ev_gk rfl)
theorem x79_15 (l0 : Nat) (s0 : Nat) (H : HS) : rn 79 15 [.ref l0] [.ref s0] H = rn 79 16 [.ref l0] [.ref l0, .ref s0] H := rn_nx rfl
theorem x79_16 (l0 : Value) (s0 : Nat) (s1 : Nat) (H : HS) : rn 79 16 [l0] [.ref s0, .ref s1] H = gk 79 19 [l0] [.ref s1] H (gfd H 4 2 s0) := (rn_ev ..).trans (ev_gk rfl)
theorem x79_19 (l0 : Value) (s0 : Int32) (s1 : Nat) (H : HS) : rn 79 19 [l0] [.int s0, .ref s1] H = gk 79 20 [l0] [] H (ald H 101 s1 s0) := (rn_ev ..).trans (ev_gk rfl)
theorem x79_20 (l0 : Value) (s0 : Int32) (H : HS) : rn 79 20 [l0] [.int s0] H = rn 79 22 [l0] [.int 48, .int s0] H := rn_nx rfl
theorem x79_22 (l0 : Value) (s0 : Int32) (s1 : Int32) (H : HS) : rn 79 22 [l0] [.int s0, .int s1] H = if s1 < s0 then rn 79 43 [l0] [] H else rn 79 25 [l0] [] H := (rn_ev ..).trans (ev_bif rfl)
theorem x79_25 (l0 : Nat) (H : HS) : rn 79 25 [.ref l0] [] H = rn 79 26 [.ref l0] [.ref l0] H := rn_nx rfl
theorem x79_26 (l0 : Value) (s0 : Nat) (H : HS) : rn 79 26 [l0] [.ref s0] H = gk 79 29 [l0] [] H (gfd H 4 0 s0) := (rn_ev ..).trans (ev_gk rfl)
theorem x79_29 (l0 : Nat) (s0 : Nat) (H : HS) : rn 79 29 [.ref l0] [.ref s0] H = rn 79 30 [.ref l0] [.ref l0, .ref s0] H := rn_nx rfl
theorem x79_30 (l0 : Value) (s0 : Nat) (s1 : Nat) (H : HS) : rn 79 30 [l0] [.ref s0, .ref s1] H = gk 79 33 [l0] [.ref s1] H (gfd H 4 2 s0) := (rn_ev ..).trans (ev_gk rfl)
theorem x79_33 (l0 : Value) (s0 : Int32) (s1 : Nat) (H : HS) : rn 79 33 [l0] [.int s0, .ref s1] H = gk 79 34 [l0] [] H (ald H 101 s1 s0) := (rn_ev ..).trans (ev_gk rfl)
theorem x79_34 (l0 : Value) (s0 : Int32) (H : HS) : rn 79 34 [l0] [.int s0] H = rn 79 36 [l0] [.int 57, .int s0] H := rn_nx rfl
theorem x79_36 (l0 : Value) (s0 : Int32) (s1 : Int32) (H : HS) : rn 79 36 [l0] [.int s0, .int s1] H = if s0 < s1 then rn 79 43 [l0] [] H else rn 79 39 [l0] [] H := (rn_ev ..).trans (ev_bif rfl)
theorem x79_39 (l0 : Value) (H : HS) : rn 79 39 [l0] [] H = rn 79 40 [l0] [.int 1] H := rn_nx rfl
theorem x79_40 (l0 : Value) (s0 : Int32) (H : HS) : rn 79 40 [l0] [.int s0] H = rn 79 44 [l0] [.int s0] H := rn_nx rfl
theorem x79_44 (l0 : Value) (s0 : Int32) (H : HS) : rn 79 44 [l0] [.int s0] H = if fitp 1 (.int s0) = true then some (.inl (some (.int s0)), H) else none := (rn_ev ..).trans (ev_ret rfl)
theorem x79_43 (l0 : Value) (H : HS) : rn 79 43 [l0] [] H = rn 79 44 [l0] [.int 0] H := rn_nx rfl
theorem c79 (a0 : Nat) (H : HS) : rcal 79 [.ref a0] H = rn 79 0 [.ref a0] [] H := rfl
theorem x80_0 (l1 : Value) (l0 : Nat) (H : HS) : rn 80 0 [.ref l0, l1] [] H = rn 80 1 [.ref l0, l1] [.ref l0] H := rn_nx rfl
theorem x80_1 (l0 l1 : Value) (s0 : Nat) (H : HS) : rn 80 1 [l0, l1] [.ref s0] H = gk 80 4 [l0, l1] [] H (gfd H 4 2 s0) := (rn_ev ..).trans (ev_gk rfl)
theorem x80_4 (l1 : Value) (l0 : Nat) (s0 : Int32) (H : HS) : rn 80 4 [.ref l0, l1] [.int s0] H = rn 80 5 [.ref l0, l1] [.ref l0, .int s0] H := rn_nx rfl
theorem x80_5 (l0 l1 : Value) (s0 : Nat) (s1 : Int32) (H : HS) : rn 80 5 [l0, l1] [.ref s0, .int s1] H = gk 80 8 [l0, l1] [.int s1] H (gfd H 4 1 s0) := (rn_ev ..).trans (ev_gk rfl)
theorem x80_8 (l0 l1 : Value) (s0 : Int32) (s1 : Int32) (H : HS) : rn 80 8 [l0, l1] [.int s0, .int s1] H = if s1 < s0 then rn 80 11 [l0, l1] [] H else rn 80 24 [l0, l1] [] H := (rn_ev ..).trans (ev_bin rfl)
theorem x80_11 (l1 : Value) (l0 : Nat) (H : HS) : rn 80 11 [.ref l0, l1] [] H = rn 80 12 [.ref l0, l1] [.ref l0] H := rn_nx rfl
theorem x80_12 (l0 l1 : Value) (s0 : Nat) (H : HS) : rn 80 12 [l0, l1] [.ref s0] H = gk 80 15 [l0, l1] [] H (gfd H 4 0 s0) := (rn_ev ..).trans (ev_gk rfl)
theorem x80_15 (l1 : Value) (l0 : Nat) (s0 : Nat) (H : HS) : rn 80 15 [.ref l0, l1] [.ref s0] H = rn 80 16 [.ref l0, l1] [.ref l0, .ref s0] H := rn_nx rfl
theorem x80_16 (l0 l1 : Value) (s0 : Nat) (s1 : Nat) (H : HS) : rn 80 16 [l0, l1] [.ref s0, .ref s1] H = gk 80 19 [l0, l1] [.ref s1] H (gfd H 4 2 s0) := (rn_ev ..).trans (ev_gk rfl)
theorem x80_19 (l0 l1 : Value) (s0 : Int32) (s1 : Nat) (H : HS) : rn 80 19 [l0, l1] [.int s0, .ref s1] H = gk 80 20 [l0, l1] [] H (ald H 101 s1 s0) := (rn_ev ..).trans (ev_gk rfl)
theorem x80_20 (l0 : Value) (l1 : Int32) (s0 : Int32) (H : HS) : rn 80 20 [l0, .int l1] [.int s0] H = rn 80 21 [l0, .int l1] [.int l1, .int s0] H := rn_nx rfl
theorem x80_21 (l0 l1 : Value) (s0 : Int32) (s1 : Int32) (H : HS) : rn 80 21 [l0, l1] [.int s0, .int s1] H = if s1 = s0 then rn 80 26 [l0, l1] [] H else rn 80 24 [l0, l1] [] H := (rn_ev ..).trans (ev_bif rfl)
theorem x80_24 (l0 l1 : Value) (H : HS) : rn 80 24 [l0, l1] [] H = rn 80 25 [l0, l1] [.int 0] H := rn_nx rfl
theorem x80_25 (l0 l1 : Value) (s0 : Int32) (H : HS) : rn 80 25 [l0, l1] [.int s0] H = if fitp 1 (.int s0) = true then some (.inl (some (.int s0)), H) else none := (rn_ev ..).trans (ev_ret rfl)
theorem x80_26 (l1 : Value) (l0 : Nat) (H : HS) : rn 80 26 [.ref l0, l1] [] H = rn 80 27 [.ref l0, l1] [.ref l0] H := rn_nx rfl
theorem x80_27 (l0 l1 : Value) (s0 : Nat) (H : HS) : rn 80 27 [l0, l1] [.ref s0] H = rn 80 28 [l0, l1] [.ref s0, .ref s0] H := rn_nx rfl
theorem x80_28 (l0 l1 : Value) (s0 : Nat) (s1 : Nat) (H : HS) : rn 80 28 [l0, l1] [.ref s0, .ref s1] H = gk 80 31 [l0, l1] [.ref s1] H (gfd H 4 2 s0) := (rn_ev ..).trans (ev_gk rfl)
theorem x80_31 (l0 l1 : Value) (s0 : Int32) (s1 : Nat) (H : HS) : rn 80 31 [l0, l1] [.int s0, .ref s1] H = rn 80 32 [l0, l1] [.int 1, .int s0, .ref s1] H := rn_nx rfl
theorem x80_32 (l0 l1 : Value) (s0 : Int32) (s1 : Int32) (s2 : Nat) (H : HS) : rn 80 32 [l0, l1] [.int s0, .int s1, .ref s2] H = rn 80 33 [l0, l1] [.int (s1 + s0), .ref s2] H := rn_nx rfl
theorem x80_33 (l0 l1 : Value) (s0 : Int32) (s1 : Nat) (H : HS) : rn 80 33 [l0, l1] [.int s0, .ref s1] H = pk 80 36 [l0, l1] [] (pfd H true 4 2 s1 (.int s0)) := (rn_ev ..).trans (ev_pk rfl)
theorem x80_36 (l0 l1 : Value) (H : HS) : rn 80 36 [l0, l1] [] H = rn 80 37 [l0, l1] [.int 1] H := rn_nx rfl
theorem x80_37 (l0 l1 : Value) (s0 : Int32) (H : HS) : rn 80 37 [l0, l1] [.int s0] H = if fitp 1 (.int s0) = true then some (.inl (some (.int s0)), H) else none := (rn_ev ..).trans (ev_ret rfl)
theorem c80 (a0 : Nat) (a1 : Int32) (H : HS) : rcal 80 [.ref a0, .int a1] H = rn 80 0 [.ref a0, .int a1] [] H := rfl
theorem x81_0 (l0 : Nat) (H : HS) : rn 81 0 [.ref l0] [] H = rn 81 1 [.ref l0] [.ref l0] H := rn_nx rfl
theorem x81_1 (l0 : Value) (s0 : Nat) (H : HS) : rn 81 1 [l0] [.ref s0] H = rn 81 4 [l0] [] H := rn_nx rfl
theorem x81_4 (l0 : Nat) (H : HS) : rn 81 4 [.ref l0] [] H = rn 81 5 [.ref l0] [.ref l0] H := rn_nx rfl
theorem x81_5 (l0 : Value) (s0 : Nat) (H : HS) : rn 81 5 [l0] [.ref s0] H = rn 81 8 [l0] [.ref 1, .ref s0] H := rn_nx rfl
theorem x81_8 (l0 : Value) (s0 : Nat) (s1 : Nat) (H : HS) : rn 81 8 [l0] [.ref s0, .ref s1] H = pk 81 11 [l0] [] (pfd H true 2 0 s1 (.ref s0)) := (rn_ev ..).trans (ev_pk rfl)
theorem x81_11 (l0 : Value) (H : HS) : rn 81 11 [l0] [] H = some (.inl none, H) := rn_end rfl
theorem c81 (a0 : Nat) (H : HS) : rcal 81 [.ref a0] H = rn 81 0 [.ref a0] [] H := rfl
theorem x82_0 (l0 : Nat) (H : HS) : rn 82 0 [.ref l0] [] H = rn 82 1 [.ref l0] [.ref l0] H := rn_nx rfl
theorem x82_1 (l0 : Value) (s0 : Nat) (H : HS) : rn 82 1 [l0] [.ref s0] H = gk 82 4 [l0] [] H (gfd H 2 0 s0) := (rn_ev ..).trans (ev_gk rfl)
theorem x82_4 (l0 : Value) (s0 : Nat) (H : HS) : rn 82 4 [l0] [.ref s0] H = rn 82 7 [l0] [.ref 1, .ref s0] H := rn_nx rfl
theorem x82_7 (l0 : Value) (s0 : Nat) (s1 : Nat) (H : HS) : rn 82 7 [l0] [.ref s0, .ref s1] H = qk 82 14 10 [l0] [] H (req H (.ref s1) (.ref s0)) := (rn_ev ..).trans (ev_qe rfl)
theorem x82_10 (l0 : Value) (H : HS) : rn 82 10 [l0] [] H = rn 82 11 [l0] [.int 1] H := rn_nx rfl
theorem x82_11 (l0 : Value) (s0 : Int32) (H : HS) : rn 82 11 [l0] [.int s0] H = rn 82 15 [l0] [.int s0] H := rn_nx rfl
theorem x82_15 (l0 : Value) (s0 : Int32) (H : HS) : rn 82 15 [l0] [.int s0] H = if fitp 1 (.int s0) = true then some (.inl (some (.int s0)), H) else none := (rn_ev ..).trans (ev_ret rfl)
theorem x82_14 (l0 : Value) (H : HS) : rn 82 14 [l0] [] H = rn 82 15 [l0] [.int 0] H := rn_nx rfl
theorem c82 (a0 : Nat) (H : HS) : rcal 82 [.ref a0] H = rn 82 0 [.ref a0] [] H := rfl
theorem x83_0 (l1 : Value) (l0 : Nat) (H : HS) : rn 83 0 [.ref l0, l1] [] H = rn 83 1 [.ref l0, l1] [.ref l0] H := rn_nx rfl
theorem x83_1 (l0 l1 : Value) (s0 : Nat) (H : HS) : rn 83 1 [l0, l1] [.ref s0] H = gk 83 4 [l0, l1] [] H (gfd H 2 0 s0) := (rn_ev ..).trans (ev_gk rfl)
theorem x83_4 (l0 l1 : Value) (s0 : Nat) (H : HS) : rn 83 4 [l0, l1] [.ref s0] H = rn 83 7 [l0, l1] [.ref 3, .ref s0] H := rn_nx rfl
theorem x83_7 (l0 l1 : Value) (s0 : Nat) (s1 : Nat) (H : HS) : rn 83 7 [l0, l1] [.ref s0, .ref s1] H = qk 83 10 22 [l0, l1] [] H (req H (.ref s1) (.ref s0)) := (rn_ev ..).trans (ev_qn rfl)
theorem x83_10 (l1 : Value) (l0 : Nat) (H : HS) : rn 83 10 [.ref l0, l1] [] H = rn 83 11 [.ref l0, l1] [.ref l0] H := rn_nx rfl
theorem x83_11 (l0 l1 : Value) (s0 : Nat) (H : HS) : rn 83 11 [l0, l1] [.ref s0] H = gk 83 14 [l0, l1] [] H (gfd H 2 6 s0) := (rn_ev ..).trans (ev_gk rfl)
theorem x83_14 (l0 : Value) (l1 : Int32) (s0 : Int32) (H : HS) : rn 83 14 [l0, .int l1] [.int s0] H = rn 83 15 [l0, .int l1] [.int l1, .int s0] H := rn_nx rfl
theorem x83_15 (l0 l1 : Value) (s0 : Int32) (s1 : Int32) (H : HS) : rn 83 15 [l0, l1] [.int s0, .int s1] H = if s1 = s0 then rn 83 18 [l0, l1] [] H else rn 83 22 [l0, l1] [] H := (rn_ev ..).trans (ev_bin rfl)
theorem x83_18 (l0 l1 : Value) (H : HS) : rn 83 18 [l0, l1] [] H = rn 83 19 [l0, l1] [.int 1] H := rn_nx rfl
theorem x83_19 (l0 l1 : Value) (s0 : Int32) (H : HS) : rn 83 19 [l0, l1] [.int s0] H = rn 83 23 [l0, l1] [.int s0] H := rn_nx rfl
theorem x83_23 (l0 l1 : Value) (s0 : Int32) (H : HS) : rn 83 23 [l0, l1] [.int s0] H = if fitp 1 (.int s0) = true then some (.inl (some (.int s0)), H) else none := (rn_ev ..).trans (ev_ret rfl)
theorem x83_22 (l0 l1 : Value) (H : HS) : rn 83 22 [l0, l1] [] H = rn 83 23 [l0, l1] [.int 0] H := rn_nx rfl
theorem c83 (a0 : Nat) (a1 : Int32) (H : HS) : rcal 83 [.ref a0, .int a1] H = rn 83 0 [.ref a0, .int a1] [] H := rfl
theorem x84_0 (l0 : Nat) (H : HS) : rn 84 0 [.ref l0] [] H = rn 84 1 [.ref l0] [.ref l0] H := rn_nx rfl
theorem x84_1 (l0 : Value) (s0 : Nat) (H : HS) : rn 84 1 [l0] [.ref s0] H = gk 84 4 [l0] [] H (gfd H 2 3 s0) := (rn_ev ..).trans (ev_gk rfl)
theorem x84_4 (l0 : Nat) (s0 : Int32) (H : HS) : rn 84 4 [.ref l0] [.int s0] H = rn 84 5 [.ref l0] [.ref l0, .int s0] H := rn_nx rfl
theorem x84_5 (l0 : Value) (s0 : Nat) (s1 : Int32) (H : HS) : rn 84 5 [l0] [.ref s0, .int s1] H = gk 84 8 [l0] [.int s1] H (gfd H 2 2 s0) := (rn_ev ..).trans (ev_gk rfl)
theorem x84_8 (l0 : Value) (s0 : Int32) (s1 : Int32) (H : HS) : rn 84 8 [l0] [.int s0, .int s1] H = if s0 < s1 then rn 84 11 [l0] [] H else rn 84 15 [l0] [] H := (rn_ev ..).trans (ev_bin rfl)
theorem x84_11 (l0 : Value) (H : HS) : rn 84 11 [l0] [] H = rn 84 12 [l0] [.int 1] H := rn_nx rfl
theorem x84_12 (l0 : Value) (s0 : Int32) (H : HS) : rn 84 12 [l0] [.int s0] H = rn 84 16 [l0] [.int s0] H := rn_nx rfl
theorem x84_16 (l0 : Value) (s0 : Int32) (H : HS) : rn 84 16 [l0] [.int s0] H = some (.inl (some (.int s0)), H) := rn_end rfl
theorem x84_15 (l0 : Value) (H : HS) : rn 84 15 [l0] [] H = rn 84 16 [l0] [.int (-1)] H := rn_nx rfl
theorem c84 (a0 : Nat) (H : HS) : rcal 84 [.ref a0] H = rn 84 0 [.ref a0] [] H := rfl
theorem x85_0 (l1 l2 : Value) (l0 : Nat) (H : HS) : rn 85 0 [.ref l0, l1, l2] [] H = rn 85 1 [.ref l0, l1, l2] [.ref l0] H := rn_nx rfl
theorem x85_1 (l0 l1 l2 : Value) (s0 : Nat) (H : HS) : rn 85 1 [l0, l1, l2] [.ref s0] H = rn 85 4 [l0, l1, l2] [.ref 3, .ref s0] H := rn_nx rfl
theorem x85_4 (l0 l1 l2 : Value) (s0 : Nat) (s1 : Nat) (H : HS) : rn 85 4 [l0, l1, l2] [.ref s0, .ref s1] H = pk 85 7 [l0, l1, l2] [] (pfd H true 2 0 s1 (.ref s0)) := (rn_ev ..).trans (ev_pk rfl)
theorem x85_7 (l1 l2 : Value) (l0 : Nat) (H : HS) : rn 85 7 [.ref l0, l1, l2] [] H = rn 85 8 [.ref l0, l1, l2] [.ref l0] H := rn_nx rfl
theorem x85_8 (l0 l2 : Value) (l1 : Int32) (s0 : Nat) (H : HS) : rn 85 8 [l0, .int l1, l2] [.ref s0] H = rn 85 9 [l0, .int l1, l2] [.int l1, .ref s0] H := rn_nx rfl
theorem x85_9 (l0 l1 l2 : Value) (s0 : Int32) (s1 : Nat) (H : HS) : rn 85 9 [l0, l1, l2] [.int s0, .ref s1] H = pk 85 12 [l0, l1, l2] [] (pfd H true 2 6 s1 (.int s0)) := (rn_ev ..).trans (ev_pk rfl)
theorem x85_12 (l1 l2 : Value) (l0 : Nat) (H : HS) : rn 85 12 [.ref l0, l1, l2] [] H = rn 85 13 [.ref l0, l1, l2] [.ref l0] H := rn_nx rfl
theorem x85_13 (l0 l1 : Value) (l2 : Int32) (s0 : Nat) (H : HS) : rn 85 13 [l0, l1, .int l2] [.ref s0] H = rn 85 14 [l0, l1, .int l2] [.int l2, .ref s0] H := rn_nx rfl
theorem x85_14 (l0 l1 l2 : Value) (s0 : Int32) (s1 : Nat) (H : HS) : rn 85 14 [l0, l1, l2] [.int s0, .ref s1] H = pk 85 17 [l0, l1, l2] [] (pfd H true 2 11 s1 (.int s0)) := (rn_ev ..).trans (ev_pk rfl)
theorem x85_17 (l0 l1 l2 : Value) (H : HS) : rn 85 17 [l0, l1, l2] [] H = some (.inl none, H) := rn_end rfl
theorem c85 (a0 : Nat) (a1 : Int32) (a2 : Int32) (H : HS) : rcal 85 [.ref a0, .int a1, .int a2] H = rn 85 0 [.ref a0, .int a1, .int a2] [] H := rfl
theorem x86_0 (l1 l2 l3 : Value) (l0 : Nat) (H : HS) : rn 86 0 [.ref l0, l1, l2, l3] [] H = rn 86 1 [.ref l0, l1, l2, l3] [.ref l0] H := rn_nx rfl
theorem x86_1 (l0 l1 l2 l3 : Value) (s0 : Nat) (H : HS) : rn 86 1 [l0, l1, l2, l3] [.ref s0] H = rn 86 4 [l0, l1, l2, l3] [.ref 4, .ref s0] H := rn_nx rfl
theorem x86_4 (l0 l1 l2 l3 : Value) (s0 : Nat) (s1 : Nat) (H : HS) : rn 86 4 [l0, l1, l2, l3] [.ref s0, .ref s1] H = pk 86 7 [l0, l1, l2, l3] [] (pfd H true 2 0 s1 (.ref s0)) := (rn_ev ..).trans (ev_pk rfl)
theorem x86_7 (l1 l2 l3 : Value) (l0 : Nat) (H : HS) : rn 86 7 [.ref l0, l1, l2, l3] [] H = rn 86 8 [.ref l0, l1, l2, l3] [.ref l0] H := rn_nx rfl
theorem x86_8 (l0 l2 l3 : Value) (l1 : Int32) (s0 : Nat) (H : HS) : rn 86 8 [l0, .int l1, l2, l3] [.ref s0] H = rn 86 9 [l0, .int l1, l2, l3] [.int l1, .ref s0] H := rn_nx rfl
theorem x86_9 (l0 l1 l2 l3 : Value) (s0 : Int32) (s1 : Nat) (H : HS) : rn 86 9 [l0, l1, l2, l3] [.int s0, .ref s1] H = pk 86 12 [l0, l1, l2, l3] [] (pfd H true 2 7 s1 (.int s0)) := (rn_ev ..).trans (ev_pk rfl)
theorem x86_12 (l1 l2 l3 : Value) (l0 : Nat) (H : HS) : rn 86 12 [.ref l0, l1, l2, l3] [] H = rn 86 13 [.ref l0, l1, l2, l3] [.ref l0] H := rn_nx rfl
theorem x86_13 (l0 l1 l3 : Value) (l2 : Int32) (s0 : Nat) (H : HS) : rn 86 13 [l0, l1, .int l2, l3] [.ref s0] H = rn 86 14 [l0, l1, .int l2, l3] [.int l2, .ref s0] H := rn_nx rfl
theorem x86_14 (l0 l1 l2 l3 : Value) (s0 : Int32) (s1 : Nat) (H : HS) : rn 86 14 [l0, l1, l2, l3] [.int s0, .ref s1] H = pk 86 17 [l0, l1, l2, l3] [] (pfd H true 2 6 s1 (.int s0)) := (rn_ev ..).trans (ev_pk rfl)
theorem x86_17 (l1 l2 l3 : Value) (l0 : Nat) (H : HS) : rn 86 17 [.ref l0, l1, l2, l3] [] H = rn 86 18 [.ref l0, l1, l2, l3] [.ref l0] H := rn_nx rfl
theorem x86_18 (l0 l1 l2 : Value) (l3 : Int32) (s0 : Nat) (H : HS) : rn 86 18 [l0, l1, l2, .int l3] [.ref s0] H = rn 86 19 [l0, l1, l2, .int l3] [.int l3, .ref s0] H := rn_nx rfl
theorem x86_19 (l0 l1 l2 l3 : Value) (s0 : Int32) (s1 : Nat) (H : HS) : rn 86 19 [l0, l1, l2, l3] [.int s0, .ref s1] H = pk 86 22 [l0, l1, l2, l3] [] (pfd H true 2 8 s1 (.int s0)) := (rn_ev ..).trans (ev_pk rfl)
theorem x86_22 (l0 l1 l2 l3 : Value) (H : HS) : rn 86 22 [l0, l1, l2, l3] [] H = some (.inl none, H) := rn_end rfl
theorem c86 (a0 : Nat) (a1 : Int32) (a2 : Int32) (a3 : Int32) (H : HS) : rcal 86 [.ref a0, .int a1, .int a2, .int a3] H = rn 86 0 [.ref a0, .int a1, .int a2, .int a3] [] H := rfl
theorem x87_0 (l1 : Value) (l0 : Nat) (H : HS) : rn 87 0 [.ref l0, l1] [] H = rn 87 1 [.ref l0, l1] [.ref l0] H := rn_nx rfl
theorem x87_1 (l0 l1 : Value) (s0 : Nat) (H : HS) : rn 87 1 [l0, l1] [.ref s0] H = gk 87 4 [l0, l1] [] H (gfd H 2 4 s0) := (rn_ev ..).trans (ev_gk rfl)
theorem x87_4 (l0 : Value) (l1 : Nat) (s0 : Int32) (H : HS) : rn 87 4 [l0, .ref l1] [.int s0] H = rn 87 5 [l0, .ref l1] [.ref l1, .int s0] H := rn_nx rfl
theorem x87_5 (l0 l1 : Value) (s0 : Nat) (s1 : Int32) (H : HS) : rn 87 5 [l0, l1] [.ref s0, .int s1] H = gk 87 8 [l0, l1] [.int s1] H (gfd H 2 4 s0) := (rn_ev ..).trans (ev_gk rfl)
theorem x87_8 (l0 l1 : Value) (s0 : Int32) (s1 : Int32) (H : HS) : rn 87 8 [l0, l1] [.int s0, .int s1] H = if s1 = s0 then rn 87 28 [l0, l1] [] H else rn 87 11 [l0, l1] [] H := (rn_ev ..).trans (ev_bif rfl)
theorem x87_11 (l1 : Value) (l0 : Nat) (H : HS) : rn 87 11 [.ref l0, l1] [] H = rn 87 12 [.ref l0, l1] [.ref l0] H := rn_nx rfl
theorem x87_12 (l0 l1 : Value) (s0 : Nat) (H : HS) : rn 87 12 [l0, l1] [.ref s0] H = gk 87 15 [l0, l1] [] H (gfd H 2 4 s0) := (rn_ev ..).trans (ev_gk rfl)
theorem x87_15 (l0 : Value) (l1 : Nat) (s0 : Int32) (H : HS) : rn 87 15 [l0, .ref l1] [.int s0] H = rn 87 16 [l0, .ref l1] [.ref l1, .int s0] H := rn_nx rfl
theorem x87_16 (l0 l1 : Value) (s0 : Nat) (s1 : Int32) (H : HS) : rn 87 16 [l0, l1] [.ref s0, .int s1] H = gk 87 19 [l0, l1] [.int s1] H (gfd H 2 4 s0) := (rn_ev ..).trans (ev_gk rfl)
theorem x87_19 (l0 l1 : Value) (s0 : Int32) (s1 : Int32) (H : HS) : rn 87 19 [l0, l1] [.int s0, .int s1] H = if s1 < s0 then rn 87 22 [l0, l1] [] H else rn 87 26 [l0, l1] [] H := (rn_ev ..).trans (ev_bin rfl)
theorem x87_22 (l0 l1 : Value) (H : HS) : rn 87 22 [l0, l1] [] H = rn 87 23 [l0, l1] [.int 1] H := rn_nx rfl
theorem x87_23 (l0 l1 : Value) (s0 : Int32) (H : HS) : rn 87 23 [l0, l1] [.int s0] H = rn 87 27 [l0, l1] [.int s0] H := rn_nx rfl
theorem x87_27 (l0 l1 : Value) (s0 : Int32) (H : HS) : rn 87 27 [l0, l1] [.int s0] H = if fitp 1 (.int s0) = true then some (.inl (some (.int s0)), H) else none := (rn_ev ..).trans (ev_ret rfl)
theorem x87_26 (l0 l1 : Value) (H : HS) : rn 87 26 [l0, l1] [] H = rn 87 27 [l0, l1] [.int 0] H := rn_nx rfl
theorem x87_28 (l1 : Value) (l0 : Nat) (H : HS) : rn 87 28 [.ref l0, l1] [] H = rn 87 29 [.ref l0, l1] [.ref l0] H := rn_nx rfl
theorem x87_29 (l0 l1 : Value) (s0 : Nat) (H : HS) : rn 87 29 [l0, l1] [.ref s0] H = gk 87 32 [l0, l1] [] H (gfd H 2 1 s0) := (rn_ev ..).trans (ev_gk rfl)
theorem x87_32 (l0 : Value) (l1 : Nat) (s0 : Int32) (H : HS) : rn 87 32 [l0, .ref l1] [.int s0] H = rn 87 33 [l0, .ref l1] [.ref l1, .int s0] H := rn_nx rfl
theorem x87_33 (l0 l1 : Value) (s0 : Nat) (s1 : Int32) (H : HS) : rn 87 33 [l0, l1] [.ref s0, .int s1] H = gk 87 36 [l0, l1] [.int s1] H (gfd H 2 1 s0) := (rn_ev ..).trans (ev_gk rfl)
theorem x87_36 (l0 l1 : Value) (s0 : Int32) (s1 : Int32) (H : HS) : rn 87 36 [l0, l1] [.int s0, .int s1] H = if s1 < s0 then rn 87 39 [l0, l1] [] H else rn 87 43 [l0, l1] [] H := (rn_ev ..).trans (ev_bin rfl)
theorem x87_39 (l0 l1 : Value) (H : HS) : rn 87 39 [l0, l1] [] H = rn 87 40 [l0, l1] [.int 1] H := rn_nx rfl
theorem x87_40 (l0 l1 : Value) (s0 : Int32) (H : HS) : rn 87 40 [l0, l1] [.int s0] H = rn 87 44 [l0, l1] [.int s0] H := rn_nx rfl
theorem x87_44 (l0 l1 : Value) (s0 : Int32) (H : HS) : rn 87 44 [l0, l1] [.int s0] H = if fitp 1 (.int s0) = true then some (.inl (some (.int s0)), H) else none := (rn_ev ..).trans (ev_ret rfl)
theorem x87_43 (l0 l1 : Value) (H : HS) : rn 87 43 [l0, l1] [] H = rn 87 44 [l0, l1] [.int 0] H := rn_nx rfl
theorem c87 (a0 : Nat) (a1 : Nat) (H : HS) : rcal 87 [.ref a0, .ref a1] H = rn 87 0 [.ref a0, .ref a1] [] H := rfl
theorem x88_0 (l1 : Value) (l0 : Nat) (H : HS) : rn 88 0 [.ref l0, l1] [] H = rn 88 1 [.ref l0, l1] [.ref l0] H := rn_nx rfl
theorem x88_1 (l0 l1 : Value) (s0 : Nat) (H : HS) : rn 88 1 [l0, l1] [.ref s0] H = gk 88 4 [l0, l1] [] H (gfd H 2 10 s0) := (rn_ev ..).trans (ev_gk rfl)
theorem x88_4 (l0 : Value) (l1 : Nat) (s0 : Int32) (H : HS) : rn 88 4 [l0, .ref l1] [.int s0] H = rn 88 5 [l0, .ref l1] [.ref l1, .int s0] H := rn_nx rfl
theorem x88_5 (l0 l1 : Value) (s0 : Nat) (s1 : Int32) (H : HS) : rn 88 5 [l0, l1] [.ref s0, .int s1] H = gk 88 8 [l0, l1] [.int s1] H (gfd H 2 10 s0) := (rn_ev ..).trans (ev_gk rfl)
theorem x88_8 (l0 l1 : Value) (s0 : Int32) (s1 : Int32) (H : HS) : rn 88 8 [l0, l1] [.int s0, .int s1] H = if s1 = s0 then rn 88 28 [l0, l1] [] H else rn 88 11 [l0, l1] [] H := (rn_ev ..).trans (ev_bif rfl)
theorem x88_11 (l1 : Value) (l0 : Nat) (H : HS) : rn 88 11 [.ref l0, l1] [] H = rn 88 12 [.ref l0, l1] [.ref l0] H := rn_nx rfl
theorem x88_12 (l0 l1 : Value) (s0 : Nat) (H : HS) : rn 88 12 [l0, l1] [.ref s0] H = gk 88 15 [l0, l1] [] H (gfd H 2 10 s0) := (rn_ev ..).trans (ev_gk rfl)
theorem x88_15 (l0 : Value) (l1 : Nat) (s0 : Int32) (H : HS) : rn 88 15 [l0, .ref l1] [.int s0] H = rn 88 16 [l0, .ref l1] [.ref l1, .int s0] H := rn_nx rfl
theorem x88_16 (l0 l1 : Value) (s0 : Nat) (s1 : Int32) (H : HS) : rn 88 16 [l0, l1] [.ref s0, .int s1] H = gk 88 19 [l0, l1] [.int s1] H (gfd H 2 10 s0) := (rn_ev ..).trans (ev_gk rfl)
theorem x88_19 (l0 l1 : Value) (s0 : Int32) (s1 : Int32) (H : HS) : rn 88 19 [l0, l1] [.int s0, .int s1] H = if s0 < s1 then rn 88 22 [l0, l1] [] H else rn 88 26 [l0, l1] [] H := (rn_ev ..).trans (ev_bin rfl)
theorem x88_22 (l0 l1 : Value) (H : HS) : rn 88 22 [l0, l1] [] H = rn 88 23 [l0, l1] [.int 1] H := rn_nx rfl
theorem x88_23 (l0 l1 : Value) (s0 : Int32) (H : HS) : rn 88 23 [l0, l1] [.int s0] H = rn 88 27 [l0, l1] [.int s0] H := rn_nx rfl
theorem x88_27 (l0 l1 : Value) (s0 : Int32) (H : HS) : rn 88 27 [l0, l1] [.int s0] H = if fitp 1 (.int s0) = true then some (.inl (some (.int s0)), H) else none := (rn_ev ..).trans (ev_ret rfl)
theorem x88_26 (l0 l1 : Value) (H : HS) : rn 88 26 [l0, l1] [] H = rn 88 27 [l0, l1] [.int 0] H := rn_nx rfl
theorem x88_28 (l1 : Value) (l0 : Nat) (H : HS) : rn 88 28 [.ref l0, l1] [] H = rn 88 29 [.ref l0, l1] [.ref l0] H := rn_nx rfl
theorem x88_29 (l0 l1 : Value) (s0 : Nat) (H : HS) : rn 88 29 [l0, l1] [.ref s0] H = gk 88 32 [l0, l1] [] H (gfd H 2 5 s0) := (rn_ev ..).trans (ev_gk rfl)
theorem x88_32 (l0 : Value) (l1 : Nat) (s0 : Int32) (H : HS) : rn 88 32 [l0, .ref l1] [.int s0] H = rn 88 33 [l0, .ref l1] [.ref l1, .int s0] H := rn_nx rfl
theorem x88_33 (l0 l1 : Value) (s0 : Nat) (s1 : Int32) (H : HS) : rn 88 33 [l0, l1] [.ref s0, .int s1] H = gk 88 36 [l0, l1] [.int s1] H (gfd H 2 5 s0) := (rn_ev ..).trans (ev_gk rfl)
theorem x88_36 (l0 l1 : Value) (s0 : Int32) (s1 : Int32) (H : HS) : rn 88 36 [l0, l1] [.int s0, .int s1] H = if s1 = s0 then rn 88 56 [l0, l1] [] H else rn 88 39 [l0, l1] [] H := (rn_ev ..).trans (ev_bif rfl)
theorem x88_39 (l1 : Value) (l0 : Nat) (H : HS) : rn 88 39 [.ref l0, l1] [] H = rn 88 40 [.ref l0, l1] [.ref l0] H := rn_nx rfl
theorem x88_40 (l0 l1 : Value) (s0 : Nat) (H : HS) : rn 88 40 [l0, l1] [.ref s0] H = gk 88 43 [l0, l1] [] H (gfd H 2 5 s0) := (rn_ev ..).trans (ev_gk rfl)
theorem x88_43 (l0 : Value) (l1 : Nat) (s0 : Int32) (H : HS) : rn 88 43 [l0, .ref l1] [.int s0] H = rn 88 44 [l0, .ref l1] [.ref l1, .int s0] H := rn_nx rfl
theorem x88_44 (l0 l1 : Value) (s0 : Nat) (s1 : Int32) (H : HS) : rn 88 44 [l0, l1] [.ref s0, .int s1] H = gk 88 47 [l0, l1] [.int s1] H (gfd H 2 5 s0) := (rn_ev ..).trans (ev_gk rfl)
theorem x88_47 (l0 l1 : Value) (s0 : Int32) (s1 : Int32) (H : HS) : rn 88 47 [l0, l1] [.int s0, .int s1] H = if s1 < s0 then rn 88 50 [l0, l1] [] H else rn 88 54 [l0, l1] [] H := (rn_ev ..).trans (ev_bin rfl)
theorem x88_50 (l0 l1 : Value) (H : HS) : rn 88 50 [l0, l1] [] H = rn 88 51 [l0, l1] [.int 1] H := rn_nx rfl
theorem x88_51 (l0 l1 : Value) (s0 : Int32) (H : HS) : rn 88 51 [l0, l1] [.int s0] H = rn 88 55 [l0, l1] [.int s0] H := rn_nx rfl
theorem x88_55 (l0 l1 : Value) (s0 : Int32) (H : HS) : rn 88 55 [l0, l1] [.int s0] H = if fitp 1 (.int s0) = true then some (.inl (some (.int s0)), H) else none := (rn_ev ..).trans (ev_ret rfl)
theorem x88_54 (l0 l1 : Value) (H : HS) : rn 88 54 [l0, l1] [] H = rn 88 55 [l0, l1] [.int 0] H := rn_nx rfl
theorem x88_56 (l1 : Value) (l0 : Nat) (H : HS) : rn 88 56 [.ref l0, l1] [] H = rn 88 57 [.ref l0, l1] [.ref l0] H := rn_nx rfl
theorem x88_57 (l0 l1 : Value) (s0 : Nat) (H : HS) : rn 88 57 [l0, l1] [.ref s0] H = gk 88 60 [l0, l1] [] H (gfd H 2 1 s0) := (rn_ev ..).trans (ev_gk rfl)
theorem x88_60 (l0 : Value) (l1 : Nat) (s0 : Int32) (H : HS) : rn 88 60 [l0, .ref l1] [.int s0] H = rn 88 61 [l0, .ref l1] [.ref l1, .int s0] H := rn_nx rfl
theorem x88_61 (l0 l1 : Value) (s0 : Nat) (s1 : Int32) (H : HS) : rn 88 61 [l0, l1] [.ref s0, .int s1] H = gk 88 64 [l0, l1] [.int s1] H (gfd H 2 1 s0) := (rn_ev ..).trans (ev_gk rfl)
theorem x88_64 (l0 l1 : Value) (s0 : Int32) (s1 : Int32) (H : HS) : rn 88 64 [l0, l1] [.int s0, .int s1] H = if s1 < s0 then rn 88 67 [l0, l1] [] H else rn 88 71 [l0, l1] [] H := (rn_ev ..).trans (ev_bin rfl)
theorem x88_67 (l0 l1 : Value) (H : HS) : rn 88 67 [l0, l1] [] H = rn 88 68 [l0, l1] [.int 1] H := rn_nx rfl
theorem x88_68 (l0 l1 : Value) (s0 : Int32) (H : HS) : rn 88 68 [l0, l1] [.int s0] H = rn 88 72 [l0, l1] [.int s0] H := rn_nx rfl
theorem x88_72 (l0 l1 : Value) (s0 : Int32) (H : HS) : rn 88 72 [l0, l1] [.int s0] H = if fitp 1 (.int s0) = true then some (.inl (some (.int s0)), H) else none := (rn_ev ..).trans (ev_ret rfl)
theorem x88_71 (l0 l1 : Value) (H : HS) : rn 88 71 [l0, l1] [] H = rn 88 72 [l0, l1] [.int 0] H := rn_nx rfl
theorem c88 (a0 : Nat) (a1 : Nat) (H : HS) : rcal 88 [.ref a0, .ref a1] H = rn 88 0 [.ref a0, .ref a1] [] H := rfl
theorem x89_0 (l1 : Value) (l0 : Nat) (H : HS) : rn 89 0 [.ref l0, l1] [] H = rn 89 1 [.ref l0, l1] [.ref l0] H := rn_nx rfl
theorem x89_1 (l0 : Value) (l1 : Nat) (s0 : Nat) (H : HS) : rn 89 1 [l0, .ref l1] [.ref s0] H = rn 89 2 [l0, .ref l1] [.ref l1, .ref s0] H := rn_nx rfl
theorem x89_2 (l0 l1 : Value) (s0 : Nat) (s1 : Nat) (H : HS) : rn 89 2 [l0, l1] [.ref s0, .ref s1] H = gk 89 5 [l0, l1] [.ref s1] H (gfd H 2 0 s0) := (rn_ev ..).trans (ev_gk rfl)
theorem x89_5 (l0 l1 : Value) (s0 : Nat) (s1 : Nat) (H : HS) : rn 89 5 [l0, l1] [.ref s0, .ref s1] H = pk 89 8 [l0, l1] [] (pfd H true 2 0 s1 (.ref s0)) := (rn_ev ..).trans (ev_pk rfl)
theorem x89_8 (l1 : Value) (l0 : Nat) (H : HS) : rn 89 8 [.ref l0, l1] [] H = rn 89 9 [.ref l0, l1] [.ref l0] H := rn_nx rfl
theorem x89_9 (l0 : Value) (l1 : Nat) (s0 : Nat) (H : HS) : rn 89 9 [l0, .ref l1] [.ref s0] H = rn 89 10 [l0, .ref l1] [.ref l1, .ref s0] H := rn_nx rfl
theorem x89_10 (l0 l1 : Value) (s0 : Nat) (s1 : Nat) (H : HS) : rn 89 10 [l0, l1] [.ref s0, .ref s1] H = gk 89 13 [l0, l1] [.ref s1] H (gfd H 2 1 s0) := (rn_ev ..).trans (ev_gk rfl)
theorem x89_13 (l0 l1 : Value) (s0 : Int32) (s1 : Nat) (H : HS) : rn 89 13 [l0, l1] [.int s0, .ref s1] H = pk 89 16 [l0, l1] [] (pfd H true 2 1 s1 (.int s0)) := (rn_ev ..).trans (ev_pk rfl)
theorem x89_16 (l1 : Value) (l0 : Nat) (H : HS) : rn 89 16 [.ref l0, l1] [] H = rn 89 17 [.ref l0, l1] [.ref l0] H := rn_nx rfl
theorem x89_17 (l0 : Value) (l1 : Nat) (s0 : Nat) (H : HS) : rn 89 17 [l0, .ref l1] [.ref s0] H = rn 89 18 [l0, .ref l1] [.ref l1, .ref s0] H := rn_nx rfl
theorem x89_18 (l0 l1 : Value) (s0 : Nat) (s1 : Nat) (H : HS) : rn 89 18 [l0, l1] [.ref s0, .ref s1] H = gk 89 21 [l0, l1] [.ref s1] H (gfd H 2 2 s0) := (rn_ev ..).trans (ev_gk rfl)
theorem x89_21 (l0 l1 : Value) (s0 : Int32) (s1 : Nat) (H : HS) : rn 89 21 [l0, l1] [.int s0, .ref s1] H = pk 89 24 [l0, l1] [] (pfd H true 2 2 s1 (.int s0)) := (rn_ev ..).trans (ev_pk rfl)
theorem x89_24 (l1 : Value) (l0 : Nat) (H : HS) : rn 89 24 [.ref l0, l1] [] H = rn 89 25 [.ref l0, l1] [.ref l0] H := rn_nx rfl
theorem x89_25 (l0 : Value) (l1 : Nat) (s0 : Nat) (H : HS) : rn 89 25 [l0, .ref l1] [.ref s0] H = rn 89 26 [l0, .ref l1] [.ref l1, .ref s0] H := rn_nx rfl
theorem x89_26 (l0 l1 : Value) (s0 : Nat) (s1 : Nat) (H : HS) : rn 89 26 [l0, l1] [.ref s0, .ref s1] H = gk 89 29 [l0, l1] [.ref s1] H (gfd H 2 3 s0) := (rn_ev ..).trans (ev_gk rfl)
theorem x89_29 (l0 l1 : Value) (s0 : Int32) (s1 : Nat) (H : HS) : rn 89 29 [l0, l1] [.int s0, .ref s1] H = pk 89 32 [l0, l1] [] (pfd H true 2 3 s1 (.int s0)) := (rn_ev ..).trans (ev_pk rfl)
theorem x89_32 (l1 : Value) (l0 : Nat) (H : HS) : rn 89 32 [.ref l0, l1] [] H = rn 89 33 [.ref l0, l1] [.ref l0] H := rn_nx rfl
theorem x89_33 (l0 : Value) (l1 : Nat) (s0 : Nat) (H : HS) : rn 89 33 [l0, .ref l1] [.ref s0] H = rn 89 34 [l0, .ref l1] [.ref l1, .ref s0] H := rn_nx rfl
theorem x89_34 (l0 l1 : Value) (s0 : Nat) (s1 : Nat) (H : HS) : rn 89 34 [l0, l1] [.ref s0, .ref s1] H = gk 89 37 [l0, l1] [.ref s1] H (gfd H 2 4 s0) := (rn_ev ..).trans (ev_gk rfl)
theorem x89_37 (l0 l1 : Value) (s0 : Int32) (s1 : Nat) (H : HS) : rn 89 37 [l0, l1] [.int s0, .ref s1] H = pk 89 40 [l0, l1] [] (pfd H true 2 4 s1 (.int s0)) := (rn_ev ..).trans (ev_pk rfl)
theorem x89_40 (l1 : Value) (l0 : Nat) (H : HS) : rn 89 40 [.ref l0, l1] [] H = rn 89 41 [.ref l0, l1] [.ref l0] H := rn_nx rfl
theorem x89_41 (l0 : Value) (l1 : Nat) (s0 : Nat) (H : HS) : rn 89 41 [l0, .ref l1] [.ref s0] H = rn 89 42 [l0, .ref l1] [.ref l1, .ref s0] H := rn_nx rfl
theorem x89_42 (l0 l1 : Value) (s0 : Nat) (s1 : Nat) (H : HS) : rn 89 42 [l0, l1] [.ref s0, .ref s1] H = gk 89 45 [l0, l1] [.ref s1] H (gfd H 2 5 s0) := (rn_ev ..).trans (ev_gk rfl)
theorem x89_45 (l0 l1 : Value) (s0 : Int32) (s1 : Nat) (H : HS) : rn 89 45 [l0, l1] [.int s0, .ref s1] H = pk 89 48 [l0, l1] [] (pfd H true 2 5 s1 (.int s0)) := (rn_ev ..).trans (ev_pk rfl)
theorem x89_48 (l1 : Value) (l0 : Nat) (H : HS) : rn 89 48 [.ref l0, l1] [] H = rn 89 49 [.ref l0, l1] [.ref l0] H := rn_nx rfl
theorem x89_49 (l0 : Value) (l1 : Nat) (s0 : Nat) (H : HS) : rn 89 49 [l0, .ref l1] [.ref s0] H = rn 89 50 [l0, .ref l1] [.ref l1, .ref s0] H := rn_nx rfl
theorem x89_50 (l0 l1 : Value) (s0 : Nat) (s1 : Nat) (H : HS) : rn 89 50 [l0, l1] [.ref s0, .ref s1] H = gk 89 53 [l0, l1] [.ref s1] H (gfd H 2 6 s0) := (rn_ev ..).trans (ev_gk rfl)
theorem x89_53 (l0 l1 : Value) (s0 : Int32) (s1 : Nat) (H : HS) : rn 89 53 [l0, l1] [.int s0, .ref s1] H = pk 89 56 [l0, l1] [] (pfd H true 2 6 s1 (.int s0)) := (rn_ev ..).trans (ev_pk rfl)
theorem x89_56 (l1 : Value) (l0 : Nat) (H : HS) : rn 89 56 [.ref l0, l1] [] H = rn 89 57 [.ref l0, l1] [.ref l0] H := rn_nx rfl
theorem x89_57 (l0 : Value) (l1 : Nat) (s0 : Nat) (H : HS) : rn 89 57 [l0, .ref l1] [.ref s0] H = rn 89 58 [l0, .ref l1] [.ref l1, .ref s0] H := rn_nx rfl
theorem x89_58 (l0 l1 : Value) (s0 : Nat) (s1 : Nat) (H : HS) : rn 89 58 [l0, l1] [.ref s0, .ref s1] H = gk 89 61 [l0, l1] [.ref s1] H (gfd H 2 7 s0) := (rn_ev ..).trans (ev_gk rfl)
theorem x89_61 (l0 l1 : Value) (s0 : Int32) (s1 : Nat) (H : HS) : rn 89 61 [l0, l1] [.int s0, .ref s1] H = pk 89 64 [l0, l1] [] (pfd H true 2 7 s1 (.int s0)) := (rn_ev ..).trans (ev_pk rfl)
theorem x89_64 (l1 : Value) (l0 : Nat) (H : HS) : rn 89 64 [.ref l0, l1] [] H = rn 89 65 [.ref l0, l1] [.ref l0] H := rn_nx rfl
theorem x89_65 (l0 : Value) (l1 : Nat) (s0 : Nat) (H : HS) : rn 89 65 [l0, .ref l1] [.ref s0] H = rn 89 66 [l0, .ref l1] [.ref l1, .ref s0] H := rn_nx rfl
theorem x89_66 (l0 l1 : Value) (s0 : Nat) (s1 : Nat) (H : HS) : rn 89 66 [l0, l1] [.ref s0, .ref s1] H = gk 89 69 [l0, l1] [.ref s1] H (gfd H 2 8 s0) := (rn_ev ..).trans (ev_gk rfl)
theorem x89_69 (l0 l1 : Value) (s0 : Int32) (s1 : Nat) (H : HS) : rn 89 69 [l0, l1] [.int s0, .ref s1] H = pk 89 72 [l0, l1] [] (pfd H true 2 8 s1 (.int s0)) := (rn_ev ..).trans (ev_pk rfl)
theorem x89_72 (l1 : Value) (l0 : Nat) (H : HS) : rn 89 72 [.ref l0, l1] [] H = rn 89 73 [.ref l0, l1] [.ref l0] H := rn_nx rfl
theorem x89_73 (l0 : Value) (l1 : Nat) (s0 : Nat) (H : HS) : rn 89 73 [l0, .ref l1] [.ref s0] H = rn 89 74 [l0, .ref l1] [.ref l1, .ref s0] H := rn_nx rfl
theorem x89_74 (l0 l1 : Value) (s0 : Nat) (s1 : Nat) (H : HS) : rn 89 74 [l0, l1] [.ref s0, .ref s1] H = gk 89 77 [l0, l1] [.ref s1] H (gfd H 2 9 s0) := (rn_ev ..).trans (ev_gk rfl)
theorem x89_77 (l0 l1 : Value) (s0 : Int32) (s1 : Nat) (H : HS) : rn 89 77 [l0, l1] [.int s0, .ref s1] H = pk 89 80 [l0, l1] [] (pfd H true 2 9 s1 (.int s0)) := (rn_ev ..).trans (ev_pk rfl)
theorem x89_80 (l1 : Value) (l0 : Nat) (H : HS) : rn 89 80 [.ref l0, l1] [] H = rn 89 81 [.ref l0, l1] [.ref l0] H := rn_nx rfl
theorem x89_81 (l0 : Value) (l1 : Nat) (s0 : Nat) (H : HS) : rn 89 81 [l0, .ref l1] [.ref s0] H = rn 89 82 [l0, .ref l1] [.ref l1, .ref s0] H := rn_nx rfl
theorem x89_82 (l0 l1 : Value) (s0 : Nat) (s1 : Nat) (H : HS) : rn 89 82 [l0, l1] [.ref s0, .ref s1] H = gk 89 85 [l0, l1] [.ref s1] H (gfd H 2 10 s0) := (rn_ev ..).trans (ev_gk rfl)
theorem x89_85 (l0 l1 : Value) (s0 : Int32) (s1 : Nat) (H : HS) : rn 89 85 [l0, l1] [.int s0, .ref s1] H = pk 89 88 [l0, l1] [] (pfd H true 2 10 s1 (.int s0)) := (rn_ev ..).trans (ev_pk rfl)
theorem x89_88 (l1 : Value) (l0 : Nat) (H : HS) : rn 89 88 [.ref l0, l1] [] H = rn 89 89 [.ref l0, l1] [.ref l0] H := rn_nx rfl
theorem x89_89 (l0 : Value) (l1 : Nat) (s0 : Nat) (H : HS) : rn 89 89 [l0, .ref l1] [.ref s0] H = rn 89 90 [l0, .ref l1] [.ref l1, .ref s0] H := rn_nx rfl
theorem x89_90 (l0 l1 : Value) (s0 : Nat) (s1 : Nat) (H : HS) : rn 89 90 [l0, l1] [.ref s0, .ref s1] H = gk 89 93 [l0, l1] [.ref s1] H (gfd H 2 11 s0) := (rn_ev ..).trans (ev_gk rfl)
theorem x89_93 (l0 l1 : Value) (s0 : Int32) (s1 : Nat) (H : HS) : rn 89 93 [l0, l1] [.int s0, .ref s1] H = pk 89 96 [l0, l1] [] (pfd H true 2 11 s1 (.int s0)) := (rn_ev ..).trans (ev_pk rfl)
theorem x89_96 (l0 l1 : Value) (H : HS) : rn 89 96 [l0, l1] [] H = some (.inl none, H) := rn_end rfl
theorem c89 (a0 : Nat) (a1 : Nat) (H : HS) : rcal 89 [.ref a0, .ref a1] H = rn 89 0 [.ref a0, .ref a1] [] H := rfl
