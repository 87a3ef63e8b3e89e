/-! a step as one rewriting: the methods 90 to 147 -/
theorem x90_0 (l0 : Nat) (H : HS) : rn 90 0 [.ref l0] [] H = rn 90 1 [.ref l0] [.ref l0] H := rn_nx rfl
theorem x90_1 (l0 : Value) (s0 : Nat) (H : HS) : rn 90 1 [l0] [.ref s0] H = rn 90 4 [l0] [] H := rn_nx rfl
theorem x90_4 (l0 : Nat) (H : HS) : rn 90 4 [.ref l0] [] H = rn 90 5 [.ref l0] [.ref l0] H := rn_nx rfl
theorem x90_5 (l0 : Value) (s0 : Nat) (H : HS) : rn 90 5 [l0] [.ref s0] H = rn 90 8 [l0] [.ref H.2.1, .ref s0] (hsn H (1, dF 1) 13) := rn_nx rfl
theorem x90_8 (l0 : Value) (s0 : Nat) (s1 : Nat) (H : HS) : rn 90 8 [l0] [.ref s0, .ref s1] H = rn 90 9 [l0] [.ref s0, .ref s0, .ref s1] H := rn_nx rfl
theorem x90_9 (l0 : Value) (s0 : Nat) (s1 : Nat) (s2 : Nat) (H : HS) : rn 90 9 [l0] [.ref s0, .ref s1, .ref s2] H = bnd false 90 9 [l0] [.ref s1, .ref s2] (rcal 34 [.ref s0] H) := rn_cal rfl
theorem x90_12 (l0 : Value) (s0 : Nat) (s1 : Nat) (H : HS) : rn 90 12 [l0] [.ref s0, .ref s1] H = pk 90 15 [l0] [] (pfd H true 0 0 s1 (.ref s0)) := (rn_ev ..).trans (ev_pk rfl)
theorem x90_15 (l0 : Nat) (H : HS) : rn 90 15 [.ref l0] [] H = rn 90 16 [.ref l0] [.ref l0] H := rn_nx rfl
theorem x90_16 (l0 : Value) (s0 : Nat) (H : HS) : rn 90 16 [l0] [.ref s0] H = rn 90 19 [l0] [.ref H.2.1, .ref s0] (hsn H (1, dF 1) 13) := rn_nx rfl
theorem x90_19 (l0 : Value) (s0 : Nat) (s1 : Nat) (H : HS) : rn 90 19 [l0] [.ref s0, .ref s1] H = rn 90 20 [l0] [.ref s0, .ref s0, .ref s1] H := rn_nx rfl
theorem x90_20 (l0 : Value) (s0 : Nat) (s1 : Nat) (s2 : Nat) (H : HS) : rn 90 20 [l0] [.ref s0, .ref s1, .ref s2] H = bnd false 90 20 [l0] [.ref s1, .ref s2] (rcal 34 [.ref s0] H) := rn_cal rfl
theorem x90_23 (l0 : Value) (s0 : Nat) (s1 : Nat) (H : HS) : rn 90 23 [l0] [.ref s0, .ref s1] H = pk 90 26 [l0] [] (pfd H true 0 1 s1 (.ref s0)) := (rn_ev ..).trans (ev_pk rfl)
theorem x90_26 (l0 : Nat) (H : HS) : rn 90 26 [.ref l0] [] H = rn 90 27 [.ref l0] [.ref l0] H := rn_nx rfl
theorem x90_27 (l0 : Value) (s0 : Nat) (H : HS) : rn 90 27 [l0] [.ref s0] H = rn 90 30 [l0] [.ref H.2.1, .ref s0] (hsn H (1, dF 1) 13) := rn_nx rfl
theorem x90_30 (l0 : Value) (s0 : Nat) (s1 : Nat) (H : HS) : rn 90 30 [l0] [.ref s0, .ref s1] H = rn 90 31 [l0] [.ref s0, .ref s0, .ref s1] H := rn_nx rfl
theorem x90_31 (l0 : Value) (s0 : Nat) (s1 : Nat) (s2 : Nat) (H : HS) : rn 90 31 [l0] [.ref s0, .ref s1, .ref s2] H = bnd false 90 31 [l0] [.ref s1, .ref s2] (rcal 34 [.ref s0] H) := rn_cal rfl
theorem x90_34 (l0 : Value) (s0 : Nat) (s1 : Nat) (H : HS) : rn 90 34 [l0] [.ref s0, .ref s1] H = pk 90 37 [l0] [] (pfd H true 0 2 s1 (.ref s0)) := (rn_ev ..).trans (ev_pk rfl)
theorem x90_37 (l0 : Nat) (H : HS) : rn 90 37 [.ref l0] [] H = rn 90 38 [.ref l0] [.ref l0] H := rn_nx rfl
theorem x90_38 (l0 : Value) (s0 : Nat) (H : HS) : rn 90 38 [l0] [.ref s0] H = rn 90 41 [l0] [.ref H.2.1, .ref s0] (hsn H (3, dF 3) 3) := rn_nx rfl
theorem x90_41 (l0 : Value) (s0 : Nat) (s1 : Nat) (H : HS) : rn 90 41 [l0] [.ref s0, .ref s1] H = rn 90 42 [l0] [.ref s0, .ref s0, .ref s1] H := rn_nx rfl
theorem x90_42 (l0 : Value) (s0 : Nat) (s1 : Nat) (s2 : Nat) (H : HS) : rn 90 42 [l0] [.ref s0, .ref s1, .ref s2] H = bnd false 90 42 [l0] [.ref s1, .ref s2] (rcal 29 [.ref s0] H) := rn_cal rfl
theorem x90_45 (l0 : Value) (s0 : Nat) (s1 : Nat) (H : HS) : rn 90 45 [l0] [.ref s0, .ref s1] H = pk 90 48 [l0] [] (pfd H true 0 3 s1 (.ref s0)) := (rn_ev ..).trans (ev_pk rfl)
theorem x90_48 (l0 : Nat) (H : HS) : rn 90 48 [.ref l0] [] H = rn 90 49 [.ref l0] [.ref l0] H := rn_nx rfl
theorem x90_49 (l0 : Value) (s0 : Nat) (H : HS) : rn 90 49 [l0] [.ref s0] H = rn 90 52 [l0] [.ref H.2.1, .ref s0] (hsn H (4, dF 4) 7) := rn_nx rfl
theorem x90_52 (l0 : Value) (s0 : Nat) (s1 : Nat) (H : HS) : rn 90 52 [l0] [.ref s0, .ref s1] H = rn 90 53 [l0] [.ref s0, .ref s0, .ref s1] H := rn_nx rfl
theorem x90_53 (l0 : Value) (s0 : Nat) (s1 : Nat) (s2 : Nat) (H : HS) : rn 90 53 [l0] [.ref s0, .ref s1, .ref s2] H = bnd false 90 53 [l0] [.ref s1, .ref s2] (rcal 68 [.ref s0] H) := rn_cal rfl
theorem x90_56 (l0 : Value) (s0 : Nat) (s1 : Nat) (H : HS) : rn 90 56 [l0] [.ref s0, .ref s1] H = pk 90 59 [l0] [] (pfd H true 0 4 s1 (.ref s0)) := (rn_ev ..).trans (ev_pk rfl)
theorem x90_59 (l0 : Nat) (H : HS) : rn 90 59 [.ref l0] [] H = rn 90 60 [.ref l0] [.ref l0] H := rn_nx rfl
theorem x90_60 (l0 : Value) (s0 : Nat) (H : HS) : rn 90 60 [l0] [.ref s0] H = rn 90 63 [l0] [.ref H.2.1, .ref s0] (hsn H (6, dF 6) 4) := rn_nx rfl
theorem x90_63 (l0 : Value) (s0 : Nat) (s1 : Nat) (H : HS) : rn 90 63 [l0] [.ref s0, .ref s1] H = rn 90 64 [l0] [.ref s0, .ref s0, .ref s1] H := rn_nx rfl
theorem x90_64 (l0 : Value) (s0 : Nat) (s1 : Nat) (s2 : Nat) (H : HS) : rn 90 64 [l0] [.ref s0, .ref s1, .ref s2] H = bnd false 90 64 [l0] [.ref s1, .ref s2] (rcal 18 [.ref s0] H) := rn_cal rfl
theorem x90_67 (l0 : Value) (s0 : Nat) (s1 : Nat) (H : HS) : rn 90 67 [l0] [.ref s0, .ref s1] H = pk 90 70 [l0] [] (pfd H true 0 5 s1 (.ref s0)) := (rn_ev ..).trans (ev_pk rfl)
theorem x90_70 (l0 : Nat) (H : HS) : rn 90 70 [.ref l0] [] H = rn 90 71 [.ref l0] [.ref l0] H := rn_nx rfl
theorem x90_71 (l0 : Value) (s0 : Nat) (H : HS) : rn 90 71 [l0] [.ref s0] H = rn 90 72 [l0] [.int (-1), .ref s0] H := rn_nx rfl
theorem x90_72 (l0 : Value) (s0 : Int32) (s1 : Nat) (H : HS) : rn 90 72 [l0] [.int s0, .ref s1] H = pk 90 75 [l0] [] (pfd H true 0 7 s1 (.int s0)) := (rn_ev ..).trans (ev_pk rfl)
theorem x90_75 (l0 : Nat) (H : HS) : rn 90 75 [.ref l0] [] H = rn 90 76 [.ref l0] [.ref l0] H := rn_nx rfl
theorem x90_76 (l0 : Value) (s0 : Nat) (H : HS) : rn 90 76 [l0] [.ref s0] H = rn 90 77 [l0] [.int (-1), .ref s0] H := rn_nx rfl
theorem x90_77 (l0 : Value) (s0 : Int32) (s1 : Nat) (H : HS) : rn 90 77 [l0] [.int s0, .ref s1] H = pk 90 80 [l0] [] (pfd H true 0 8 s1 (.int s0)) := (rn_ev ..).trans (ev_pk rfl)
theorem x90_80 (l0 : Value) (H : HS) : rn 90 80 [l0] [] H = some (.inl none, H) := rn_end rfl
theorem c90 (a0 : Nat) (H : HS) : rcal 90 [.ref a0] H = rn 90 0 [.ref a0] [] H := rfl
theorem x91_0 (l1 l2 : Value) (l0 : Nat) (H : HS) : rn 91 0 [.ref l0, l1, l2] [] H = rn 91 1 [.ref l0, l1, l2] [.ref l0] H := rn_nx rfl
theorem x91_1 (l0 l1 l2 : Value) (s0 : Nat) (H : HS) : rn 91 1 [l0, l1, l2] [.ref s0] H = rn 91 4 [l0, l1, l2] [.ref 5, .ref s0] H := rn_nx rfl
theorem x91_4 (l0 l2 : Value) (l1 : Int32) (s0 : Nat) (s1 : Nat) (H : HS) : rn 91 4 [l0, .int l1, l2] [.ref s0, .ref s1] H = rn 91 5 [l0, .int l1, l2] [.int l1, .ref s0, .ref s1] H := rn_nx rfl
theorem x91_5 (l0 l1 : Value) (l2 : Int32) (s0 : Int32) (s1 : Nat) (s2 : Nat) (H : HS) : rn 91 5 [l0, l1, .int l2] [.int s0, .ref s1, .ref s2] H = rn 91 6 [l0, l1, .int l2] [.int l2, .int s0, .ref s1, .ref s2] H := rn_nx rfl
theorem x91_6 (l0 l1 l2 : Value) (s0 : Int32) (s1 : Int32) (s2 : Nat) (s3 : Nat) (H : HS) : rn 91 6 [l0, l1, l2] [.int s0, .int s1, .ref s2, .ref s3] H = rn 91 7 [l0, l1, l2] [.int 0, .int s0, .int s1, .ref s2, .ref s3] H := rn_nx rfl
theorem x91_7 (l0 l1 l2 : Value) (s0 : Int32) (s1 : Int32) (s2 : Int32) (s3 : Nat) (s4 : Nat) (H : HS) (h : recv H s4 0 = true) : rn 91 7 [l0, l1, l2] [.int s0, .int s1, .int s2, .ref s3, .ref s4] H = bnd true 91 7 [l0, l1, l2] [] (rcal 98 [.ref s4, .ref s3, .int s2, .int s1, .int s0] H) := rn_cal (vcal h rfl)
theorem x91_10 (l0 l1 l2 : Value) (s0 : Int32) (H : HS) : rn 91 10 [l0, l1, l2] [.int s0] H = some (.inl (some (.int s0)), H) := rn_end rfl
theorem c91 (a0 : Nat) (a1 : Int32) (a2 : Int32) (H : HS) : rcal 91 [.ref a0, .int a1, .int a2] H = rn 91 0 [.ref a0, .int a1, .int a2] [] H := rfl
theorem x92_0 (l1 l2 : Value) (l0 : Nat) (H : HS) : rn 92 0 [.ref l0, l1, l2] [] H = rn 92 1 [.ref l0, l1, l2] [.ref l0] H := rn_nx rfl
theorem x92_1 (l0 l1 l2 : Value) (s0 : Nat) (H : HS) : rn 92 1 [l0, l1, l2] [.ref s0] H = rn 92 4 [l0, l1, l2] [.ref 6, .ref s0] H := rn_nx rfl
theorem x92_4 (l0 l2 : Value) (l1 : Int32) (s0 : Nat) (s1 : Nat) (H : HS) : rn 92 4 [l0, .int l1, l2] [.ref s0, .ref s1] H = rn 92 5 [l0, .int l1, l2] [.int l1, .ref s0, .ref s1] H := rn_nx rfl
theorem x92_5 (l0 l1 : Value) (l2 : Int32) (s0 : Int32) (s1 : Nat) (s2 : Nat) (H : HS) : rn 92 5 [l0, l1, .int l2] [.int s0, .ref s1, .ref s2] H = rn 92 6 [l0, l1, .int l2] [.int l2, .int s0, .ref s1, .ref s2] H := rn_nx rfl
theorem x92_6 (l0 l1 l2 : Value) (s0 : Int32) (s1 : Int32) (s2 : Nat) (s3 : Nat) (H : HS) : rn 92 6 [l0, l1, l2] [.int s0, .int s1, .ref s2, .ref s3] H = rn 92 7 [l0, l1, l2] [.int 0, .int s0, .int s1, .ref s2, .ref s3] H := rn_nx rfl
theorem x92_7 (l0 l1 l2 : Value) (s0 : Int32) (s1 : Int32) (s2 : Int32) (s3 : Nat) (s4 : Nat) (H : HS) (h : recv H s4 0 = true) : rn 92 7 [l0, l1, l2] [.int s0, .int s1, .int s2, .ref s3, .ref s4] H = bnd true 92 7 [l0, l1, l2] [] (rcal 98 [.ref s4, .ref s3, .int s2, .int s1, .int s0] H) := rn_cal (vcal h rfl)
theorem x92_10 (l0 l1 l2 : Value) (s0 : Int32) (H : HS) : rn 92 10 [l0, l1, l2] [.int s0] H = some (.inl (some (.int s0)), H) := rn_end rfl
theorem c92 (a0 : Nat) (a1 : Int32) (a2 : Int32) (H : HS) : rcal 92 [.ref a0, .int a1, .int a2] H = rn 92 0 [.ref a0, .int a1, .int a2] [] H := rfl
theorem x93_0 (l1 l2 l3 : Value) (l0 : Nat) (H : HS) : rn 93 0 [.ref l0, l1, l2, l3] [] H = rn 93 1 [.ref l0, l1, l2, l3] [.ref l0] H := rn_nx rfl
theorem x93_1 (l0 l1 l2 l3 : Value) (s0 : Nat) (H : HS) : rn 93 1 [l0, l1, l2, l3] [.ref s0] H = rn 93 4 [l0, l1, l2, l3] [.ref 7, .ref s0] H := rn_nx rfl
theorem x93_4 (l0 l2 l3 : Value) (l1 : Int32) (s0 : Nat) (s1 : Nat) (H : HS) : rn 93 4 [l0, .int l1, l2, l3] [.ref s0, .ref s1] H = rn 93 5 [l0, .int l1, l2, l3] [.int l1, .ref s0, .ref s1] H := rn_nx rfl
theorem x93_5 (l0 l1 l3 : Value) (l2 : Int32) (s0 : Int32) (s1 : Nat) (s2 : Nat) (H : HS) : rn 93 5 [l0, l1, .int l2, l3] [.int s0, .ref s1, .ref s2] H = rn 93 6 [l0, l1, .int l2, l3] [.int l2, .int s0, .ref s1, .ref s2] H := rn_nx rfl
theorem x93_6 (l0 l1 l2 : Value) (l3 : Int32) (s0 : Int32) (s1 : Int32) (s2 : Nat) (s3 : Nat) (H : HS) : rn 93 6 [l0, l1, l2, .int l3] [.int s0, .int s1, .ref s2, .ref s3] H = rn 93 7 [l0, l1, l2, .int l3] [.int l3, .int s0, .int s1, .ref s2, .ref s3] H := rn_nx rfl
theorem x93_7 (l0 l1 l2 l3 : Value) (s0 : Int32) (s1 : Int32) (s2 : Int32) (s3 : Nat) (s4 : Nat) (H : HS) (h : recv H s4 0 = true) : rn 93 7 [l0, l1, l2, l3] [.int s0, .int s1, .int s2, .ref s3, .ref s4] H = bnd true 93 7 [l0, l1, l2, l3] [] (rcal 98 [.ref s4, .ref s3, .int s2, .int s1, .int s0] H) := rn_cal (vcal h rfl)
theorem x93_10 (l0 l1 l2 l3 : Value) (s0 : Int32) (H : HS) : rn 93 10 [l0, l1, l2, l3] [.int s0] H = some (.inl (some (.int s0)), H) := rn_end rfl
theorem c93 (a0 : Nat) (a1 : Int32) (a2 : Int32) (a3 : Int32) (H : HS) : rcal 93 [.ref a0, .int a1, .int a2, .int a3] H = rn 93 0 [.ref a0, .int a1, .int a2, .int a3] [] H := rfl
theorem x94_0 (l1 : Value) (l0 : Nat) (H : HS) : rn 94 0 [.ref l0, l1] [] H = rn 94 1 [.ref l0, l1] [.ref l0] H := rn_nx rfl
theorem x94_1 (l0 l1 : Value) (s0 : Nat) (H : HS) : rn 94 1 [l0, l1] [.ref s0] H = rn 94 4 [l0, l1] [.ref 8, .ref s0] H := rn_nx rfl
theorem x94_4 (l0 : Value) (l1 : Int32) (s0 : Nat) (s1 : Nat) (H : HS) : rn 94 4 [l0, .int l1] [.ref s0, .ref s1] H = rn 94 5 [l0, .int l1] [.int l1, .ref s0, .ref s1] H := rn_nx rfl
theorem x94_5 (l0 l1 : Value) (s0 : Int32) (s1 : Nat) (s2 : Nat) (H : HS) : rn 94 5 [l0, l1] [.int s0, .ref s1, .ref s2] H = rn 94 6 [l0, l1] [.int 0, .int s0, .ref s1, .ref s2] H := rn_nx rfl
theorem x94_6 (l0 l1 : Value) (s0 : Int32) (s1 : Int32) (s2 : Nat) (s3 : Nat) (H : HS) : rn 94 6 [l0, l1] [.int s0, .int s1, .ref s2, .ref s3] H = rn 94 7 [l0, l1] [.int 0, .int s0, .int s1, .ref s2, .ref s3] H := rn_nx rfl
theorem x94_7 (l0 l1 : Value) (s0 : Int32) (s1 : Int32) (s2 : Int32) (s3 : Nat) (s4 : Nat) (H : HS) (h : recv H s4 0 = true) : rn 94 7 [l0, l1] [.int s0, .int s1, .int s2, .ref s3, .ref s4] H = bnd true 94 7 [l0, l1] [] (rcal 98 [.ref s4, .ref s3, .int s2, .int s1, .int s0] H) := rn_cal (vcal h rfl)
theorem x94_10 (l0 l1 : Value) (s0 : Int32) (H : HS) : rn 94 10 [l0, l1] [.int s0] H = some (.inl (some (.int s0)), H) := rn_end rfl
theorem c94 (a0 : Nat) (a1 : Int32) (H : HS) : rcal 94 [.ref a0, .int a1] H = rn 94 0 [.ref a0, .int a1] [] H := rfl
theorem x95_0 (l1 : Value) (l0 : Nat) (H : HS) : rn 95 0 [.ref l0, l1] [] H = rn 95 1 [.ref l0, l1] [.ref l0] H := rn_nx rfl
theorem x95_1 (l0 l1 : Value) (s0 : Nat) (H : HS) : rn 95 1 [l0, l1] [.ref s0] H = rn 95 4 [l0, l1] [.ref 9, .ref s0] H := rn_nx rfl
theorem x95_4 (l0 : Value) (l1 : Int32) (s0 : Nat) (s1 : Nat) (H : HS) : rn 95 4 [l0, .int l1] [.ref s0, .ref s1] H = rn 95 5 [l0, .int l1] [.int l1, .ref s0, .ref s1] H := rn_nx rfl
theorem x95_5 (l0 l1 : Value) (s0 : Int32) (s1 : Nat) (s2 : Nat) (H : HS) : rn 95 5 [l0, l1] [.int s0, .ref s1, .ref s2] H = rn 95 6 [l0, l1] [.int 0, .int s0, .ref s1, .ref s2] H := rn_nx rfl
theorem x95_6 (l0 l1 : Value) (s0 : Int32) (s1 : Int32) (s2 : Nat) (s3 : Nat) (H : HS) : rn 95 6 [l0, l1] [.int s0, .int s1, .ref s2, .ref s3] H = rn 95 7 [l0, l1] [.int 0, .int s0, .int s1, .ref s2, .ref s3] H := rn_nx rfl
theorem x95_7 (l0 l1 : Value) (s0 : Int32) (s1 : Int32) (s2 : Int32) (s3 : Nat) (s4 : Nat) (H : HS) (h : recv H s4 0 = true) : rn 95 7 [l0, l1] [.int s0, .int s1, .int s2, .ref s3, .ref s4] H = bnd true 95 7 [l0, l1] [] (rcal 98 [.ref s4, .ref s3, .int s2, .int s1, .int s0] H) := rn_cal (vcal h rfl)
theorem x95_10 (l0 l1 : Value) (s0 : Int32) (H : HS) : rn 95 10 [l0, l1] [.int s0] H = some (.inl (some (.int s0)), H) := rn_end rfl
theorem c95 (a0 : Nat) (a1 : Int32) (H : HS) : rcal 95 [.ref a0, .int a1] H = rn 95 0 [.ref a0, .int a1] [] H := rfl
theorem x96_0 (l1 : Value) (l0 : Nat) (H : HS) : rn 96 0 [.ref l0, l1] [] H = rn 96 1 [.ref l0, l1] [.ref l0] H := rn_nx rfl
theorem x96_1 (l0 l1 : Value) (s0 : Nat) (H : HS) : rn 96 1 [l0, l1] [.ref s0] H = rn 96 4 [l0, l1] [.ref 10, .ref s0] H := rn_nx rfl
theorem x96_4 (l0 : Value) (l1 : Int32) (s0 : Nat) (s1 : Nat) (H : HS) : rn 96 4 [l0, .int l1] [.ref s0, .ref s1] H = rn 96 5 [l0, .int l1] [.int l1, .ref s0, .ref s1] H := rn_nx rfl
theorem x96_5 (l0 l1 : Value) (s0 : Int32) (s1 : Nat) (s2 : Nat) (H : HS) : rn 96 5 [l0, l1] [.int s0, .ref s1, .ref s2] H = rn 96 6 [l0, l1] [.int 0, .int s0, .ref s1, .ref s2] H := rn_nx rfl
theorem x96_6 (l0 l1 : Value) (s0 : Int32) (s1 : Int32) (s2 : Nat) (s3 : Nat) (H : HS) : rn 96 6 [l0, l1] [.int s0, .int s1, .ref s2, .ref s3] H = rn 96 7 [l0, l1] [.int 0, .int s0, .int s1, .ref s2, .ref s3] H := rn_nx rfl
theorem x96_7 (l0 l1 : Value) (s0 : Int32) (s1 : Int32) (s2 : Int32) (s3 : Nat) (s4 : Nat) (H : HS) (h : recv H s4 0 = true) : rn 96 7 [l0, l1] [.int s0, .int s1, .int s2, .ref s3, .ref s4] H = bnd true 96 7 [l0, l1] [] (rcal 98 [.ref s4, .ref s3, .int s2, .int s1, .int s0] H) := rn_cal (vcal h rfl)
theorem x96_10 (l0 l1 : Value) (s0 : Int32) (H : HS) : rn 96 10 [l0, l1] [.int s0] H = some (.inl (some (.int s0)), H) := rn_end rfl
theorem c96 (a0 : Nat) (a1 : Int32) (H : HS) : rcal 96 [.ref a0, .int a1] H = rn 96 0 [.ref a0, .int a1] [] H := rfl
theorem x97_0 (l1 : Value) (l0 : Nat) (H : HS) : rn 97 0 [.ref l0, l1] [] H = rn 97 1 [.ref l0, l1] [.ref l0] H := rn_nx rfl
theorem x97_1 (l0 l1 : Value) (s0 : Nat) (H : HS) : rn 97 1 [l0, l1] [.ref s0] H = rn 97 4 [l0, l1] [.ref 11, .ref s0] H := rn_nx rfl
theorem x97_4 (l0 : Value) (l1 : Int32) (s0 : Nat) (s1 : Nat) (H : HS) : rn 97 4 [l0, .int l1] [.ref s0, .ref s1] H = rn 97 5 [l0, .int l1] [.int l1, .ref s0, .ref s1] H := rn_nx rfl
theorem x97_5 (l0 l1 : Value) (s0 : Int32) (s1 : Nat) (s2 : Nat) (H : HS) : rn 97 5 [l0, l1] [.int s0, .ref s1, .ref s2] H = rn 97 6 [l0, l1] [.int 0, .int s0, .ref s1, .ref s2] H := rn_nx rfl
theorem x97_6 (l0 l1 : Value) (s0 : Int32) (s1 : Int32) (s2 : Nat) (s3 : Nat) (H : HS) : rn 97 6 [l0, l1] [.int s0, .int s1, .ref s2, .ref s3] H = rn 97 7 [l0, l1] [.int 0, .int s0, .int s1, .ref s2, .ref s3] H := rn_nx rfl
theorem x97_7 (l0 l1 : Value) (s0 : Int32) (s1 : Int32) (s2 : Int32) (s3 : Nat) (s4 : Nat) (H : HS) (h : recv H s4 0 = true) : rn 97 7 [l0, l1] [.int s0, .int s1, .int s2, .ref s3, .ref s4] H = bnd true 97 7 [l0, l1] [] (rcal 98 [.ref s4, .ref s3, .int s2, .int s1, .int s0] H) := rn_cal (vcal h rfl)
theorem x97_10 (l0 l1 : Value) (s0 : Int32) (H : HS) : rn 97 10 [l0, l1] [.int s0] H = some (.inl (some (.int s0)), H) := rn_end rfl
theorem c97 (a0 : Nat) (a1 : Int32) (H : HS) : rcal 97 [.ref a0, .int a1] H = rn 97 0 [.ref a0, .int a1] [] H := rfl
theorem x98_0 (l1 l2 l3 l4 l5 : Value) (l0 : Nat) (H : HS) : rn 98 0 [.ref l0, l1, l2, l3, l4, l5] [] H = rn 98 1 [.ref l0, l1, l2, l3, l4, l5] [.ref l0] H := rn_nx rfl
theorem x98_1 (l0 l1 l2 l3 l4 l5 : Value) (s0 : Nat) (H : HS) : rn 98 1 [l0, l1, l2, l3, l4, l5] [.ref s0] H = gk 98 4 [l0, l1, l2, l3, l4, l5] [] H (gfd H 0 3 s0) := (rn_ev ..).trans (ev_gk rfl)
theorem x98_4 (l1 l2 l3 l4 l5 : Value) (l0 : Nat) (s0 : Nat) (H : HS) : rn 98 4 [.ref l0, l1, l2, l3, l4, l5] [.ref s0] H = rn 98 5 [.ref l0, l1, l2, l3, l4, l5] [.ref l0, .ref s0] H := rn_nx rfl
theorem x98_5 (l0 l1 l2 l3 l4 l5 : Value) (s0 : Nat) (s1 : Nat) (H : HS) : rn 98 5 [l0, l1, l2, l3, l4, l5] [.ref s0, .ref s1] H = gk 98 8 [l0, l1, l2, l3, l4, l5] [.ref s1] H (gfd H 0 0 s0) := (rn_ev ..).trans (ev_gk rfl)
theorem x98_8 (l0 l1 l2 l3 l4 l5 : Value) (s0 : Nat) (s1 : Nat) (H : HS) (h : recv H s1 3 = true) : rn 98 8 [l0, l1, l2, l3, l4, l5] [.ref s0, .ref s1] H = bnd true 98 8 [l0, l1, l2, l3, l4, l5] [] (rcal 30 [.ref s1, .ref s0] H) := rn_cal (vcal h rfl)
theorem x98_11 (l1 l2 l3 l4 l5 : Value) (l0 : Nat) (H : HS) : rn 98 11 [.ref l0, l1, l2, l3, l4, l5] [] H = rn 98 12 [.ref l0, l1, l2, l3, l4, l5] [.ref l0] H := rn_nx rfl
theorem x98_12 (l0 l1 l2 l3 l4 l5 : Value) (s0 : Nat) (H : HS) : rn 98 12 [l0, l1, l2, l3, l4, l5] [.ref s0] H = gk 98 15 [l0, l1, l2, l3, l4, l5] [] H (gfd H 0 0 s0) := (rn_ev ..).trans (ev_gk rfl)
theorem x98_15 (l0 l2 l3 l4 l5 : Value) (l1 : Nat) (s0 : Nat) (H : HS) : rn 98 15 [l0, .ref l1, l2, l3, l4, l5] [.ref s0] H = rn 98 16 [l0, .ref l1, l2, l3, l4, l5] [.ref l1, .ref s0] H := rn_nx rfl
theorem x98_16 (l0 l1 l3 l4 l5 : Value) (l2 : Int32) (s0 : Nat) (s1 : Nat) (H : HS) : rn 98 16 [l0, l1, .int l2, l3, l4, l5] [.ref s0, .ref s1] H = rn 98 17 [l0, l1, .int l2, l3, l4, l5] [.int l2, .ref s0, .ref s1] H := rn_nx rfl
theorem x98_17 (l0 l1 l2 l4 l5 : Value) (l3 : Int32) (s0 : Int32) (s1 : Nat) (s2 : Nat) (H : HS) : rn 98 17 [l0, l1, l2, .int l3, l4, l5] [.int s0, .ref s1, .ref s2] H = rn 98 18 [l0, l1, l2, .int l3, l4, l5] [.int l3, .int s0, .ref s1, .ref s2] H := rn_nx rfl
theorem x98_18 (l0 l1 l2 l3 l5 : Value) (l4 : Int32) (s0 : Int32) (s1 : Int32) (s2 : Nat) (s3 : Nat) (H : HS) : rn 98 18 [l0, l1, l2, l3, .int l4, l5] [.int s0, .int s1, .ref s2, .ref s3] H = rn 98 20 [l0, l1, l2, l3, .int l4, l5] [.int l4, .int s0, .int s1, .ref s2, .ref s3] H := rn_nx rfl
theorem x98_20 (l0 l1 l2 l3 l4 l5 : Value) (s0 : Int32) (s1 : Int32) (s2 : Int32) (s3 : Nat) (s4 : Nat) (H : HS) (h : recv H s4 1 = true) : rn 98 20 [l0, l1, l2, l3, l4, l5] [.int s0, .int s1, .int s2, .ref s3, .ref s4] H = bnd true 98 20 [l0, l1, l2, l3, l4, l5] [] (rcal 36 [.ref s4, .ref s3, .int s2, .int s1, .int s0] H) := rn_cal (vcal h rfl)
theorem x98_23 (l0 l1 l2 l3 l4 l5 : Value) (s0 : Int32) (H : HS) : rn 98 23 [l0, l1, l2, l3, l4, l5] [.int s0] H = rn 98 25 [l0, l1, l2, l3, (kl l4), .int s0] [] H := rn_nx rfl
theorem x98_25 (l0 l1 l2 l3 l4 : Value) (l5 : Int32) (H : HS) : rn 98 25 [l0, l1, l2, l3, l4, .int l5] [] H = rn 98 27 [l0, l1, l2, l3, l4, .int l5] [.int l5] H := rn_nx rfl
theorem x98_27 (l0 l1 l2 l3 l4 l5 : Value) (s0 : Int32) (H : HS) : rn 98 27 [l0, l1, l2, l3, l4, l5] [.int s0] H = bnd true 98 27 [l0, l1, l2, l3, l4, l5] [] (rcal 99 [.int s0] H) := rn_cal rfl
theorem x98_30 (l1 l2 l3 l4 l5 : Value) (l0 : Nat) (H : HS) : rn 98 30 [.ref l0, l1, l2, l3, l4, l5] [] H = rn 98 31 [.ref l0, l1, l2, l3, l4, l5] [.ref l0] H := rn_nx rfl
theorem x98_31 (l0 l1 l2 l3 l4 l5 : Value) (s0 : Nat) (H : HS) : rn 98 31 [l0, l1, l2, l3, l4, l5] [.ref s0] H = gk 98 34 [l0, l1, l2, l3, l4, l5] [] H (gfd H 0 3 s0) := (rn_ev ..).trans (ev_gk rfl)
theorem x98_34 (l0 l1 l2 l3 l4 l5 : Value) (s0 : Nat) (H : HS) (h : recv H s0 3 = true) : rn 98 34 [l0, l1, l2, l3, l4, l5] [.ref s0] H = bnd true 98 34 [l0, l1, l2, l3, l4, l5] [] (rcal 32 [.ref s0] H) := rn_cal (vcal h rfl)
theorem x98_37 (l0 l1 l2 l3 l4 : Value) (l5 : Int32) (H : HS) : rn 98 37 [l0, l1, l2, l3, l4, .int l5] [] H = rn 98 39 [l0, l1, l2, l3, l4, .int l5] [.int l5] H := rn_nx rfl
theorem x98_39 (l0 l1 l2 l3 l4 l5 : Value) (s0 : Int32) (H : HS) : rn 98 39 [l0, l1, l2, l3, l4, l5] [.int s0] H = some (.inl (some (.int s0)), H) := rn_end rfl
theorem c98 (a0 : Nat) (a1 : Nat) (a2 : Int32) (a3 : Int32) (a4 : Int32) (H : HS) : rcal 98 [.ref a0, .ref a1, .int a2, .int a3, .int a4] H = rn 98 0 [.ref a0, .ref a1, .int a2, .int a3, .int a4, un] [] H := rfl
theorem x99_0 (l0 : Int32) (H : HS) : rn 99 0 [.int l0] [] H = rn 99 1 [.int l0] [.int l0] H := rn_nx rfl
theorem x99_1 (l0 : Value) (s0 : Int32) (H : HS) : rn 99 1 [l0] [.int s0] H = rn 99 2 [l0] [.int (-1), .int s0] H := rn_nx rfl
theorem x99_2 (l0 : Value) (s0 : Int32) (s1 : Int32) (H : HS) : rn 99 2 [l0] [.int s0, .int s1] H = if s1 = s0 then rn 99 5 [l0] [] H else rn 99 15 [l0] [] H := (rn_ev ..).trans (ev_bin rfl)
theorem x99_5 (l0 : Value) (H : HS) : rn 99 5 [l0] [] H = some (.inr 0, hsx H) := rn_end rfl
theorem x99_15 (l0 : Int32) (H : HS) : rn 99 15 [.int l0] [] H = rn 99 16 [.int l0] [.int l0] H := rn_nx rfl
theorem x99_16 (l0 : Value) (s0 : Int32) (H : HS) : rn 99 16 [l0] [.int s0] H = rn 99 18 [l0] [.int (-2), .int s0] H := rn_nx rfl
theorem x99_18 (l0 : Value) (s0 : Int32) (s1 : Int32) (H : HS) : rn 99 18 [l0] [.int s0, .int s1] H = if s1 = s0 then rn 99 21 [l0] [] H else rn 99 31 [l0] [] H := (rn_ev ..).trans (ev_bin rfl)
theorem x99_21 (l0 : Value) (H : HS) : rn 99 21 [l0] [] H = some (.inr 1, hsx H) := rn_end rfl
theorem x99_31 (l0 : Int32) (H : HS) : rn 99 31 [.int l0] [] H = rn 99 32 [.int l0] [.int l0] H := rn_nx rfl
theorem x99_32 (l0 : Value) (s0 : Int32) (H : HS) : rn 99 32 [l0] [.int s0] H = rn 99 34 [l0] [.int (-3), .int s0] H := rn_nx rfl
theorem x99_34 (l0 : Value) (s0 : Int32) (s1 : Int32) (H : HS) : rn 99 34 [l0] [.int s0, .int s1] H = if s1 = s0 then rn 99 37 [l0] [] H else rn 99 47 [l0] [] H := (rn_ev ..).trans (ev_bin rfl)
theorem x99_37 (l0 : Value) (H : HS) : rn 99 37 [l0] [] H = some (.inr 2, hsx H) := rn_end rfl
theorem x99_47 (l0 : Int32) (H : HS) : rn 99 47 [.int l0] [] H = rn 99 48 [.int l0] [.int l0] H := rn_nx rfl
theorem x99_48 (l0 : Value) (s0 : Int32) (H : HS) : rn 99 48 [l0] [.int s0] H = rn 99 50 [l0] [.int (-4), .int s0] H := rn_nx rfl
theorem x99_50 (l0 : Value) (s0 : Int32) (s1 : Int32) (H : HS) : rn 99 50 [l0] [.int s0, .int s1] H = if s1 = s0 then rn 99 53 [l0] [] H else rn 99 63 [l0] [] H := (rn_ev ..).trans (ev_bin rfl)
theorem x99_53 (l0 : Value) (H : HS) : rn 99 53 [l0] [] H = some (.inr 3, hsx H) := rn_end rfl
theorem x99_63 (l0 : Value) (H : HS) : rn 99 63 [l0] [] H = some (.inl none, H) := rn_end rfl
theorem c99 (a0 : Int32) (H : HS) : rcal 99 [.int a0] H = rn 99 0 [.int a0] [] H := rfl
theorem x100_0 (l0 : Nat) (H : HS) : rn 100 0 [.ref l0] [] H = rn 100 1 [.ref l0] [.ref l0] H := rn_nx rfl
theorem x100_1 (l0 : Value) (s0 : Nat) (H : HS) : rn 100 1 [l0] [.ref s0] H = gk 100 4 [l0] [] H (gfd H 0 0 s0) := (rn_ev ..).trans (ev_gk rfl)
theorem x100_4 (l0 : Value) (s0 : Nat) (H : HS) : rn 100 4 [l0] [.ref s0] H = gk 100 7 [l0] [] H (gfd H 1 0 s0) := (rn_ev ..).trans (ev_gk rfl)
theorem x100_7 (l0 : Value) (s0 : Int32) (H : HS) : rn 100 7 [l0] [.int s0] H = some (.inl (some (.int s0)), H) := rn_end rfl
theorem c100 (a0 : Nat) (H : HS) : rcal 100 [.ref a0] H = rn 100 0 [.ref a0] [] H := rfl
theorem x101_0 (l1 : Value) (l0 : Nat) (H : HS) : rn 101 0 [.ref l0, l1] [] H = rn 101 1 [.ref l0, l1] [.ref l0] H := rn_nx rfl
theorem x101_1 (l0 : Value) (l1 : Int32) (s0 : Nat) (H : HS) : rn 101 1 [l0, .int l1] [.ref s0] H = rn 101 2 [l0, .int l1] [.int l1, .ref s0] H := rn_nx rfl
theorem x101_2 (l0 l1 : Value) (s0 : Int32) (s1 : Nat) (H : HS) (h : recv H s1 0 = true) : rn 101 2 [l0, l1] [.int s0, .ref s1] H = bnd true 101 2 [l0, l1] [] (rcal 109 [.ref s1, .int s0] H) := rn_cal (vcal h rfl)
theorem x101_5 (l1 : Value) (l0 : Nat) (H : HS) : rn 101 5 [.ref l0, l1] [] H = rn 101 6 [.ref l0, l1] [.ref l0] H := rn_nx rfl
theorem x101_6 (l0 l1 : Value) (s0 : Nat) (H : HS) : rn 101 6 [l0, l1] [.ref s0] H = gk 101 9 [l0, l1] [] H (gfd H 0 0 s0) := (rn_ev ..).trans (ev_gk rfl)
theorem x101_9 (l0 l1 : Value) (s0 : Nat) (H : HS) : rn 101 9 [l0, l1] [.ref s0] H = gk 101 12 [l0, l1] [] H (gfd H 1 1 s0) := (rn_ev ..).trans (ev_gk rfl)
theorem x101_12 (l0 : Value) (l1 : Int32) (s0 : Nat) (H : HS) : rn 101 12 [l0, .int l1] [.ref s0] H = rn 101 13 [l0, .int l1] [.int l1, .ref s0] H := rn_nx rfl
theorem x101_13 (l0 l1 : Value) (s0 : Int32) (s1 : Nat) (H : HS) : rn 101 13 [l0, l1] [.int s0, .ref s1] H = gk 101 14 [l0, l1] [] H (ald H 100 s1 s0) := (rn_ev ..).trans (ev_gk rfl)
theorem x101_14 (l0 l1 : Value) (s0 : Int32) (H : HS) : rn 101 14 [l0, l1] [.int s0] H = some (.inl (some (.int s0)), H) := rn_end rfl
theorem c101 (a0 : Nat) (a1 : Int32) (H : HS) : rcal 101 [.ref a0, .int a1] H = rn 101 0 [.ref a0, .int a1] [] H := rfl
theorem x102_0 (l1 : Value) (l0 : Nat) (H : HS) : rn 102 0 [.ref l0, l1] [] H = rn 102 1 [.ref l0, l1] [.ref l0] H := rn_nx rfl
theorem x102_1 (l0 : Value) (l1 : Int32) (s0 : Nat) (H : HS) : rn 102 1 [l0, .int l1] [.ref s0] H = rn 102 2 [l0, .int l1] [.int l1, .ref s0] H := rn_nx rfl
theorem x102_2 (l0 l1 : Value) (s0 : Int32) (s1 : Nat) (H : HS) (h : recv H s1 0 = true) : rn 102 2 [l0, l1] [.int s0, .ref s1] H = bnd true 102 2 [l0, l1] [] (rcal 109 [.ref s1, .int s0] H) := rn_cal (vcal h rfl)
theorem x102_5 (l1 : Value) (l0 : Nat) (H : HS) : rn 102 5 [.ref l0, l1] [] H = rn 102 6 [.ref l0, l1] [.ref l0] H := rn_nx rfl
theorem x102_6 (l0 l1 : Value) (s0 : Nat) (H : HS) : rn 102 6 [l0, l1] [.ref s0] H = gk 102 9 [l0, l1] [] H (gfd H 0 0 s0) := (rn_ev ..).trans (ev_gk rfl)
theorem x102_9 (l0 : Value) (l1 : Int32) (s0 : Nat) (H : HS) : rn 102 9 [l0, .int l1] [.ref s0] H = rn 102 10 [l0, .int l1] [.int l1, .ref s0] H := rn_nx rfl
theorem x102_10 (l0 l1 : Value) (s0 : Int32) (s1 : Nat) (H : HS) (h : recv H s1 1 = true) : rn 102 10 [l0, l1] [.int s0, .ref s1] H = bnd true 102 10 [l0, l1] [] (rcal 60 [.ref s1, .int s0] H) := rn_cal (vcal h rfl)
theorem x102_13 (l0 l1 : Value) (s0 : Int32) (H : HS) : rn 102 13 [l0, l1] [.int s0] H = some (.inl (some (.int s0)), H) := rn_end rfl
theorem c102 (a0 : Nat) (a1 : Int32) (H : HS) : rcal 102 [.ref a0, .int a1] H = rn 102 0 [.ref a0, .int a1] [] H := rfl
theorem x103_0 (l1 l2 l3 l4 l5 l6 : Value) (l0 : Nat) (H : HS) : rn 103 0 [.ref l0, l1, l2, l3, l4, l5, l6] [] H = rn 103 1 [.ref l0, l1, l2, l3, l4, l5, l6] [.ref l0] H := rn_nx rfl
theorem x103_1 (l0 l2 l3 l4 l5 l6 : Value) (l1 : Int32) (s0 : Nat) (H : HS) : rn 103 1 [l0, .int l1, l2, l3, l4, l5, l6] [.ref s0] H = rn 103 2 [l0, .int l1, l2, l3, l4, l5, l6] [.int l1, .ref s0] H := rn_nx rfl
theorem x103_2 (l0 l1 l2 l3 l4 l5 l6 : Value) (s0 : Int32) (s1 : Nat) (H : HS) (h : recv H s1 0 = true) : rn 103 2 [l0, l1, l2, l3, l4, l5, l6] [.int s0, .ref s1] H = bnd true 103 2 [l0, l1, l2, l3, l4, l5, l6] [] (rcal 109 [.ref s1, .int s0] H) := rn_cal (vcal h rfl)
theorem x103_5 (l0 l1 l2 l3 l4 l5 l6 : Value) (H : HS) : rn 103 5 [l0, l1, l2, l3, l4, l5, l6] [] H = rn 103 6 [l0, l1, l2, l3, l4, l5, l6] [.int 0] H := rn_nx rfl
theorem x103_6 (l0 l1 l2 l3 l4 l5 l6 : Value) (s0 : Int32) (H : HS) : rn 103 6 [l0, l1, l2, l3, l4, l5, l6] [.int s0] H = rn 103 7 [l0, (kl l1), .int s0, l3, l4, l5, l6] [] H := rn_nx rfl
theorem x103_7 (l1 l2 l3 l4 l5 l6 : Value) (l0 : Nat) (H : HS) : rn 103 7 [.ref l0, l1, l2, l3, l4, l5, l6] [] H = rn 103 8 [.ref l0, l1, l2, l3, l4, l5, l6] [.ref l0] H := rn_nx rfl
theorem x103_8 (l0 l1 l2 l3 l4 l5 l6 : Value) (s0 : Nat) (H : HS) : rn 103 8 [l0, l1, l2, l3, l4, l5, l6] [.ref s0] H = gk 103 11 [l0, l1, l2, l3, l4, l5, l6] [] H (gfd H 0 0 s0) := (rn_ev ..).trans (ev_gk rfl)
theorem x103_11 (l0 l1 l2 l3 l4 l5 l6 : Value) (s0 : Nat) (H : HS) : rn 103 11 [l0, l1, l2, l3, l4, l5, l6] [.ref s0] H = gk 103 14 [l0, l1, l2, l3, l4, l5, l6] [] H (gfd H 1 4 s0) := (rn_ev ..).trans (ev_gk rfl)
theorem x103_14 (l0 l1 l2 l3 l4 l5 l6 : Value) (s0 : Nat) (H : HS) : rn 103 14 [l0, l1, l2, l3, l4, l5, l6] [.ref s0] H = rn 103 15 [l0, l1, (kl l2), .ref s0, l4, l5, l6] [] H := rn_nx rfl
theorem x103_15 (l0 l1 l2 l4 l5 l6 : Value) (l3 : Nat) (H : HS) : rn 103 15 [l0, l1, l2, .ref l3, l4, l5, l6] [] H = rn 103 16 [l0, l1, l2, .ref l3, l4, l5, l6] [.ref l3] H := rn_nx rfl
theorem x103_16 (l0 l1 l2 l3 l4 l5 l6 : Value) (s0 : Nat) (H : HS) : rn 103 16 [l0, l1, l2, l3, l4, l5, l6] [.ref s0] H = gk 103 17 [l0, l1, l2, l3, l4, l5, l6] [] H (alen H s0) := (rn_ev ..).trans (ev_gk rfl)
theorem x103_17 (l0 l1 l2 l3 l4 l5 l6 : Value) (s0 : Int32) (H : HS) : rn 103 17 [l0, l1, l2, l3, l4, l5, l6] [.int s0] H = rn 103 19 [l0, l1, l2, (kl l3), .int s0, l5, l6] [] H := rn_nx rfl
theorem x103_19 (l0 l1 l2 l3 l4 l5 l6 : Value) (H : HS) : rn 103 19 [l0, l1, l2, l3, l4, l5, l6] [] H = rn 103 20 [l0, l1, l2, l3, l4, l5, l6] [.int 0] H := rn_nx rfl
theorem x103_20 (l0 l1 l2 l3 l4 l5 l6 : Value) (s0 : Int32) (H : HS) : rn 103 20 [l0, l1, l2, l3, l4, l5, l6] [.int s0] H = rn 103 22 [l0, l1, l2, l3, (kl l4), .int s0, l6] [] H := rn_nx rfl
theorem x103_22 (l0 l1 l2 l3 l4 l6 : Value) (l5 : Int32) (H : HS) : rn 103 22 [l0, l1, l2, l3, l4, .int l5, l6] [] H = rn 103 24 [l0, l1, l2, l3, l4, .int l5, l6] [.int l5] H := rn_nx rfl
theorem x103_24 (l0 l1 l2 l3 l5 l6 : Value) (l4 : Int32) (s0 : Int32) (H : HS) : rn 103 24 [l0, l1, l2, l3, .int l4, l5, l6] [.int s0] H = rn 103 26 [l0, l1, l2, l3, .int l4, l5, l6] [.int l4, .int s0] H := rn_nx rfl
theorem x103_26 (l0 l1 l2 l3 l4 l5 l6 : Value) (s0 : Int32) (s1 : Int32) (H : HS) : rn 103 26 [l0, l1, l2, l3, l4, l5, l6] [.int s0, .int s1] H = if s1 < s0 then rn 103 29 [l0, l1, l2, l3, l4, l5, l6] [] H else rn 103 53 [l0, l1, l2, l3, l4, l5, l6] [] H := (rn_ev ..).trans (ev_bin rfl)
theorem x103_29 (l0 l1 l2 l4 l5 l6 : Value) (l3 : Nat) (H : HS) : rn 103 29 [l0, l1, l2, .ref l3, l4, l5, l6] [] H = rn 103 30 [l0, l1, l2, .ref l3, l4, l5, l6] [.ref l3] H := rn_nx rfl
theorem x103_30 (l0 l1 l2 l3 l4 l6 : Value) (l5 : Int32) (s0 : Nat) (H : HS) : rn 103 30 [l0, l1, l2, l3, l4, .int l5, l6] [.ref s0] H = rn 103 32 [l0, l1, l2, l3, l4, .int l5, l6] [.int l5, .ref s0] H := rn_nx rfl
theorem x103_32 (l0 l1 l2 l3 l4 l5 l6 : Value) (s0 : Int32) (s1 : Nat) (H : HS) : rn 103 32 [l0, l1, l2, l3, l4, l5, l6] [.int s0, .ref s1] H = gk 103 33 [l0, l1, l2, l3, l4, l5, l6] [] H (aald H s1 s0) := (rn_ev ..).trans (ev_gk rfl)
theorem x103_33 (l0 l1 l2 l3 l4 l5 l6 : Value) (s0 : Nat) (H : HS) : rn 103 33 [l0, l1, l2, l3, l4, l5, l6] [.ref s0] H = rn 103 35 [l0, l1, l2, l3, l4, (kl l5), .ref s0] [] H := rn_nx rfl
theorem x103_35 (l0 l1 l2 l3 l4 l5 : Value) (l6 : Nat) (H : HS) : rn 103 35 [l0, l1, l2, l3, l4, l5, .ref l6] [] H = rn 103 37 [l0, l1, l2, l3, l4, l5, .ref l6] [.ref l6] H := rn_nx rfl
theorem x103_37 (l0 l2 l3 l4 l5 l6 : Value) (l1 : Int32) (s0 : Nat) (H : HS) : rn 103 37 [l0, .int l1, l2, l3, l4, l5, l6] [.ref s0] H = rn 103 38 [l0, .int l1, l2, l3, l4, l5, l6] [.int l1, .ref s0] H := rn_nx rfl
theorem x103_38 (l0 l1 l2 l3 l4 l5 l6 : Value) (s0 : Int32) (s1 : Nat) (H : HS) (h : recv H s1 2 = true) : rn 103 38 [l0, l1, l2, l3, l4, l5, l6] [.int s0, .ref s1] H = bnd true 103 38 [l0, l1, l2, l3, l4, l5, l6] [] (rcal 83 [.ref s1, .int s0] H) := rn_cal (vcal h rfl)
theorem x103_41 (l0 l1 l2 l3 l4 l5 l6 : Value) (s0 : Int32) (H : HS) : rn 103 41 [l0, l1, l2, l3, l4, l5, l6] [.int s0] H = if s0 = 0 then rn 103 47 [l0, l1, l2, l3, l4, l5, l6] [] H else rn 103 44 [l0, l1, l2, l3, l4, l5, l6] [] H := (rn_ev ..).trans (ev_bif rfl)
theorem x103_44 (l0 l1 l3 l4 l5 l6 : Value) (l2 : Int32) (H : HS) : rn 103 44 [l0, l1, .int l2, l3, l4, l5, l6] [] H = rn 103 47 [l0, (kl l1), .int (l2 + 1), l3, l4, l5, l6] [] H := rn_nx rfl
theorem x103_47 (l0 l1 l2 l3 l4 l6 : Value) (l5 : Int32) (H : HS) : rn 103 47 [l0, l1, l2, l3, l4, .int l5, l6] [] H = rn 103 50 [l0, l1, l2, l3, (kl l4), .int (l5 + 1), l6] [] H := rn_nx rfl
theorem x103_50 (l0 l1 l2 l3 l4 l5 l6 : Value) (H : HS) : rn 103 50 [l0, l1, l2, l3, l4, l5, l6] [] H = rn 103 22 [l0, l1, l2, l3, l4, l5, l6] [] H := rn_nx rfl
theorem x103_53 (l0 l1 l3 l4 l5 l6 : Value) (l2 : Int32) (H : HS) : rn 103 53 [l0, l1, .int l2, l3, l4, l5, l6] [] H = rn 103 54 [l0, l1, .int l2, l3, l4, l5, l6] [.int l2] H := rn_nx rfl
theorem x103_54 (l0 l1 l2 l3 l4 l5 l6 : Value) (s0 : Int32) (H : HS) : rn 103 54 [l0, l1, l2, l3, l4, l5, l6] [.int s0] H = some (.inl (some (.int s0)), H) := rn_end rfl
theorem c103 (a0 : Nat) (a1 : Int32) (H : HS) : rcal 103 [.ref a0, .int a1] H = rn 103 0 [.ref a0, .int a1, un, un, un, un, un] [] H := rfl
theorem x104_0 (l1 : Value) (l0 : Nat) (H : HS) : rn 104 0 [.ref l0, l1] [] H = rn 104 1 [.ref l0, l1] [.ref l0] H := rn_nx rfl
theorem x104_1 (l0 : Value) (l1 : Int32) (s0 : Nat) (H : HS) : rn 104 1 [l0, .int l1] [.ref s0] H = rn 104 2 [l0, .int l1] [.int l1, .ref s0] H := rn_nx rfl
theorem x104_2 (l0 l1 : Value) (s0 : Int32) (s1 : Nat) (H : HS) (h : recv H s1 0 = true) : rn 104 2 [l0, l1] [.int s0, .ref s1] H = bnd true 104 2 [l0, l1] [] (rcal 110 [.ref s1, .int s0] H) := rn_cal (vcal h rfl)
theorem x104_5 (l1 : Value) (l0 : Nat) (H : HS) : rn 104 5 [.ref l0, l1] [] H = rn 104 6 [.ref l0, l1] [.ref l0] H := rn_nx rfl
theorem x104_6 (l0 l1 : Value) (s0 : Nat) (H : HS) : rn 104 6 [l0, l1] [.ref s0] H = gk 104 9 [l0, l1] [] H (gfd H 0 0 s0) := (rn_ev ..).trans (ev_gk rfl)
theorem x104_9 (l0 l1 : Value) (s0 : Nat) (H : HS) : rn 104 9 [l0, l1] [.ref s0] H = gk 104 12 [l0, l1] [] H (gfd H 1 2 s0) := (rn_ev ..).trans (ev_gk rfl)
theorem x104_12 (l0 : Value) (l1 : Int32) (s0 : Nat) (H : HS) : rn 104 12 [l0, .int l1] [.ref s0] H = rn 104 13 [l0, .int l1] [.int l1, .ref s0] H := rn_nx rfl
theorem x104_13 (l0 l1 : Value) (s0 : Int32) (s1 : Nat) (H : HS) : rn 104 13 [l0, l1] [.int s0, .ref s1] H = gk 104 14 [l0, l1] [] H (ald H 100 s1 s0) := (rn_ev ..).trans (ev_gk rfl)
theorem x104_14 (l0 l1 : Value) (s0 : Int32) (H : HS) : rn 104 14 [l0, l1] [.int s0] H = some (.inl (some (.int s0)), H) := rn_end rfl
theorem c104 (a0 : Nat) (a1 : Int32) (H : HS) : rcal 104 [.ref a0, .int a1] H = rn 104 0 [.ref a0, .int a1] [] H := rfl
theorem x105_0 (l1 : Value) (l0 : Nat) (H : HS) : rn 105 0 [.ref l0, l1] [] H = rn 105 1 [.ref l0, l1] [.ref l0] H := rn_nx rfl
theorem x105_1 (l0 : Value) (l1 : Int32) (s0 : Nat) (H : HS) : rn 105 1 [l0, .int l1] [.ref s0] H = rn 105 2 [l0, .int l1] [.int l1, .ref s0] H := rn_nx rfl
theorem x105_2 (l0 l1 : Value) (s0 : Int32) (s1 : Nat) (H : HS) (h : recv H s1 0 = true) : rn 105 2 [l0, l1] [.int s0, .ref s1] H = bnd true 105 2 [l0, l1] [] (rcal 110 [.ref s1, .int s0] H) := rn_cal (vcal h rfl)
theorem x105_5 (l1 : Value) (l0 : Nat) (H : HS) : rn 105 5 [.ref l0, l1] [] H = rn 105 6 [.ref l0, l1] [.ref l0] H := rn_nx rfl
theorem x105_6 (l0 l1 : Value) (s0 : Nat) (H : HS) : rn 105 6 [l0, l1] [.ref s0] H = gk 105 9 [l0, l1] [] H (gfd H 0 0 s0) := (rn_ev ..).trans (ev_gk rfl)
theorem x105_9 (l0 : Value) (l1 : Int32) (s0 : Nat) (H : HS) : rn 105 9 [l0, .int l1] [.ref s0] H = rn 105 10 [l0, .int l1] [.int l1, .ref s0] H := rn_nx rfl
theorem x105_10 (l0 l1 : Value) (s0 : Int32) (s1 : Nat) (H : HS) (h : recv H s1 1 = true) : rn 105 10 [l0, l1] [.int s0, .ref s1] H = bnd true 105 10 [l0, l1] [] (rcal 59 [.ref s1, .int s0] H) := rn_cal (vcal h rfl)
theorem x105_13 (l0 l1 : Value) (H : HS) : rn 105 13 [l0, l1] [.null] H = rn 105 16 [l0, l1] [] H := rn_nx rfl
theorem x105_16 (l0 l1 : Value) (H : HS) : rn 105 16 [l0, l1] [] H = rn 105 17 [l0, l1] [.int 1] H := rn_nx rfl
theorem x105_17 (l0 l1 : Value) (s0 : Int32) (H : HS) : rn 105 17 [l0, l1] [.int s0] H = rn 105 21 [l0, l1] [.int s0] H := rn_nx rfl
theorem x105_21 (l0 l1 : Value) (s0 : Int32) (H : HS) : rn 105 21 [l0, l1] [.int s0] H = if fitp 1 (.int s0) = true then some (.inl (some (.int s0)), H) else none := (rn_ev ..).trans (ev_ret rfl)
theorem x105_13a (l0 l1 : Value) (s0 : Nat) (H : HS) : rn 105 13 [l0, l1] [.ref s0] H = rn 105 20 [l0, l1] [] H := rn_nx rfl
theorem x105_20 (l0 l1 : Value) (H : HS) : rn 105 20 [l0, l1] [] H = rn 105 21 [l0, l1] [.int 0] H := rn_nx rfl
theorem c105 (a0 : Nat) (a1 : Int32) (H : HS) : rcal 105 [.ref a0, .int a1] H = rn 105 0 [.ref a0, .int a1] [] H := rfl
theorem x106_0 (l1 l2 : Value) (l0 : Nat) (H : HS) : rn 106 0 [.ref l0, l1, l2] [] H = rn 106 1 [.ref l0, l1, l2] [.ref l0] H := rn_nx rfl
theorem x106_1 (l0 l2 : Value) (l1 : Int32) (s0 : Nat) (H : HS) : rn 106 1 [l0, .int l1, l2] [.ref s0] H = rn 106 2 [l0, .int l1, l2] [.int l1, .ref s0] H := rn_nx rfl
theorem x106_2 (l0 l1 l2 : Value) (s0 : Int32) (s1 : Nat) (H : HS) (h : recv H s1 0 = true) : rn 106 2 [l0, l1, l2] [.int s0, .ref s1] H = bnd true 106 2 [l0, l1, l2] [] (rcal 110 [.ref s1, .int s0] H) := rn_cal (vcal h rfl)
theorem x106_5 (l1 l2 : Value) (l0 : Nat) (H : HS) : rn 106 5 [.ref l0, l1, l2] [] H = rn 106 6 [.ref l0, l1, l2] [.ref l0] H := rn_nx rfl
theorem x106_6 (l0 l1 l2 : Value) (s0 : Nat) (H : HS) : rn 106 6 [l0, l1, l2] [.ref s0] H = gk 106 9 [l0, l1, l2] [] H (gfd H 0 0 s0) := (rn_ev ..).trans (ev_gk rfl)
theorem x106_9 (l0 l2 : Value) (l1 : Int32) (s0 : Nat) (H : HS) : rn 106 9 [l0, .int l1, l2] [.ref s0] H = rn 106 10 [l0, .int l1, l2] [.int l1, .ref s0] H := rn_nx rfl
theorem x106_10 (l0 l1 l2 : Value) (s0 : Int32) (s1 : Nat) (H : HS) (h : recv H s1 1 = true) : rn 106 10 [l0, l1, l2] [.int s0, .ref s1] H = bnd true 106 10 [l0, l1, l2] [] (rcal 59 [.ref s1, .int s0] H) := rn_cal (vcal h rfl)
theorem x106_13 (l0 l1 l2 : Value) (H : HS) : rn 106 13 [l0, l1, l2] [.null] H = rn 106 14 [l0, (kl l1), .null] [] H := rn_nx rfl
theorem x106_14 (l0 l1 : Value) (l2 : Nat) (H : HS) : rn 106 14 [l0, l1, .ref l2] [] H = rn 106 15 [l0, l1, .ref l2] [.ref l2] H := rn_nx rfl
theorem x106_14n (l0 l1 : Value) (H : HS) : rn 106 14 [l0, l1, .null] [] H = rn 106 15 [l0, l1, .null] [.null] H := rn_nx rfl
theorem x106_15 (l0 l1 l2 : Value) (H : HS) : rn 106 15 [l0, l1, l2] [.null] H = rn 106 18 [l0, l1, l2] [] H := rn_nx rfl
theorem x106_18 (l0 l1 l2 : Value) (H : HS) : rn 106 18 [l0, l1, l2] [] H = some (.inr 3, hsx H) := rn_end rfl
theorem x106_15a (l0 l1 l2 : Value) (s0 : Nat) (H : HS) : rn 106 15 [l0, l1, l2] [.ref s0] H = rn 106 28 [l0, l1, l2] [] H := rn_nx rfl
theorem x106_28 (l0 l1 : Value) (l2 : Nat) (H : HS) : rn 106 28 [l0, l1, .ref l2] [] H = rn 106 29 [l0, l1, .ref l2] [.ref l2] H := rn_nx rfl
theorem x106_29 (l0 l1 l2 : Value) (s0 : Nat) (H : HS) : rn 106 29 [l0, l1, l2] [.ref s0] H = gk 106 32 [l0, l1, l2] [] H (gfd H 2 1 s0) := (rn_ev ..).trans (ev_gk rfl)
theorem x106_32 (l0 l1 l2 : Value) (s0 : Int32) (H : HS) : rn 106 32 [l0, l1, l2] [.int s0] H = some (.inl (some (.int s0)), H) := rn_end rfl
theorem x106_13a (l0 l1 l2 : Value) (s0 : Nat) (H : HS) : rn 106 13 [l0, l1, l2] [.ref s0] H = rn 106 14 [l0, (kl l1), .ref s0] [] H := rn_nx rfl
theorem c106 (a0 : Nat) (a1 : Int32) (H : HS) : rcal 106 [.ref a0, .int a1] H = rn 106 0 [.ref a0, .int a1, un] [] H := rfl
theorem x107_0 (l1 l2 : Value) (l0 : Nat) (H : HS) : rn 107 0 [.ref l0, l1, l2] [] H = rn 107 1 [.ref l0, l1, l2] [.ref l0] H := rn_nx rfl
theorem x107_1 (l0 l2 : Value) (l1 : Int32) (s0 : Nat) (H : HS) : rn 107 1 [l0, .int l1, l2] [.ref s0] H = rn 107 2 [l0, .int l1, l2] [.int l1, .ref s0] H := rn_nx rfl
theorem x107_2 (l0 l1 l2 : Value) (s0 : Int32) (s1 : Nat) (H : HS) (h : recv H s1 0 = true) : rn 107 2 [l0, l1, l2] [.int s0, .ref s1] H = bnd true 107 2 [l0, l1, l2] [] (rcal 109 [.ref s1, .int s0] H) := rn_cal (vcal h rfl)
theorem x107_5 (l1 l2 : Value) (l0 : Nat) (H : HS) : rn 107 5 [.ref l0, l1, l2] [] H = rn 107 6 [.ref l0, l1, l2] [.ref l0] H := rn_nx rfl
theorem x107_6 (l0 l1 : Value) (l2 : Int32) (s0 : Nat) (H : HS) : rn 107 6 [l0, l1, .int l2] [.ref s0] H = rn 107 7 [l0, l1, .int l2] [.int l2, .ref s0] H := rn_nx rfl
theorem x107_7 (l0 l1 l2 : Value) (s0 : Int32) (s1 : Nat) (H : HS) (h : recv H s1 0 = true) : rn 107 7 [l0, l1, l2] [.int s0, .ref s1] H = bnd true 107 7 [l0, l1, l2] [] (rcal 109 [.ref s1, .int s0] H) := rn_cal (vcal h rfl)
theorem x107_10 (l1 l2 : Value) (l0 : Nat) (H : HS) : rn 107 10 [.ref l0, l1, l2] [] H = rn 107 11 [.ref l0, l1, l2] [.ref l0] H := rn_nx rfl
theorem x107_11 (l0 l1 l2 : Value) (s0 : Nat) (H : HS) : rn 107 11 [l0, l1, l2] [.ref s0] H = gk 107 14 [l0, l1, l2] [] H (gfd H 0 0 s0) := (rn_ev ..).trans (ev_gk rfl)
theorem x107_14 (l0 l2 : Value) (l1 : Int32) (s0 : Nat) (H : HS) : rn 107 14 [l0, .int l1, l2] [.ref s0] H = rn 107 15 [l0, .int l1, l2] [.int l1, .ref s0] H := rn_nx rfl
theorem x107_15 (l0 l1 : Value) (l2 : Int32) (s0 : Int32) (s1 : Nat) (H : HS) : rn 107 15 [l0, l1, .int l2] [.int s0, .ref s1] H = rn 107 16 [l0, l1, .int l2] [.int l2, .int s0, .ref s1] H := rn_nx rfl
theorem x107_16 (l0 l1 l2 : Value) (s0 : Int32) (s1 : Int32) (s2 : Nat) (H : HS) (h : recv H s2 1 = true) : rn 107 16 [l0, l1, l2] [.int s0, .int s1, .ref s2] H = bnd true 107 16 [l0, l1, l2] [] (rcal 61 [.ref s2, .int s1, .int s0] H) := rn_cal (vcal h rfl)
theorem x107_19 (l0 l1 l2 : Value) (s0 : Int32) (H : HS) : rn 107 19 [l0, l1, l2] [.int s0] H = some (.inl (some (.int s0)), H) := rn_end rfl
theorem c107 (a0 : Nat) (a1 : Int32) (a2 : Int32) (H : HS) : rcal 107 [.ref a0, .int a1, .int a2] H = rn 107 0 [.ref a0, .int a1, .int a2] [] H := rfl
theorem x108_0 (l1 l2 : Value) (l0 : Nat) (H : HS) : rn 108 0 [.ref l0, l1, l2] [] H = rn 108 1 [.ref l0, l1, l2] [.ref l0] H := rn_nx rfl
theorem x108_1 (l0 l2 : Value) (l1 : Int32) (s0 : Nat) (H : HS) : rn 108 1 [l0, .int l1, l2] [.ref s0] H = rn 108 2 [l0, .int l1, l2] [.int l1, .ref s0] H := rn_nx rfl
theorem x108_2 (l0 l1 l2 : Value) (s0 : Int32) (s1 : Nat) (H : HS) (h : recv H s1 0 = true) : rn 108 2 [l0, l1, l2] [.int s0, .ref s1] H = bnd true 108 2 [l0, l1, l2] [] (rcal 109 [.ref s1, .int s0] H) := rn_cal (vcal h rfl)
theorem x108_5 (l1 l2 : Value) (l0 : Nat) (H : HS) : rn 108 5 [.ref l0, l1, l2] [] H = rn 108 6 [.ref l0, l1, l2] [.ref l0] H := rn_nx rfl
theorem x108_6 (l0 l1 : Value) (l2 : Int32) (s0 : Nat) (H : HS) : rn 108 6 [l0, l1, .int l2] [.ref s0] H = rn 108 7 [l0, l1, .int l2] [.int l2, .ref s0] H := rn_nx rfl
theorem x108_7 (l0 l1 l2 : Value) (s0 : Int32) (s1 : Nat) (H : HS) (h : recv H s1 0 = true) : rn 108 7 [l0, l1, l2] [.int s0, .ref s1] H = bnd true 108 7 [l0, l1, l2] [] (rcal 109 [.ref s1, .int s0] H) := rn_cal (vcal h rfl)
theorem x108_10 (l1 l2 : Value) (l0 : Nat) (H : HS) : rn 108 10 [.ref l0, l1, l2] [] H = rn 108 11 [.ref l0, l1, l2] [.ref l0] H := rn_nx rfl
theorem x108_11 (l0 l1 l2 : Value) (s0 : Nat) (H : HS) : rn 108 11 [l0, l1, l2] [.ref s0] H = gk 108 14 [l0, l1, l2] [] H (gfd H 0 0 s0) := (rn_ev ..).trans (ev_gk rfl)
theorem x108_14 (l0 l2 : Value) (l1 : Int32) (s0 : Nat) (H : HS) : rn 108 14 [l0, .int l1, l2] [.ref s0] H = rn 108 15 [l0, .int l1, l2] [.int l1, .ref s0] H := rn_nx rfl
theorem x108_15 (l0 l1 : Value) (l2 : Int32) (s0 : Int32) (s1 : Nat) (H : HS) : rn 108 15 [l0, l1, .int l2] [.int s0, .ref s1] H = rn 108 16 [l0, l1, .int l2] [.int l2, .int s0, .ref s1] H := rn_nx rfl
theorem x108_16 (l0 l1 l2 : Value) (s0 : Int32) (s1 : Int32) (s2 : Nat) (H : HS) (h : recv H s2 1 = true) : rn 108 16 [l0, l1, l2] [.int s0, .int s1, .ref s2] H = bnd true 108 16 [l0, l1, l2] [] (rcal 62 [.ref s2, .int s1, .int s0] H) := rn_cal (vcal h rfl)
theorem x108_19 (l0 l1 l2 : Value) (s0 : Int32) (H : HS) : rn 108 19 [l0, l1, l2] [.int s0] H = some (.inl (some (.int s0)), H) := rn_end rfl
theorem c108 (a0 : Nat) (a1 : Int32) (a2 : Int32) (H : HS) : rcal 108 [.ref a0, .int a1, .int a2] H = rn 108 0 [.ref a0, .int a1, .int a2] [] H := rfl
theorem x109_0 (l1 : Value) (l0 : Nat) (H : HS) : rn 109 0 [.ref l0, l1] [] H = rn 109 1 [.ref l0, l1] [.ref l0] H := rn_nx rfl
theorem x109_1 (l0 l1 : Value) (s0 : Nat) (H : HS) : rn 109 1 [l0, l1] [.ref s0] H = gk 109 4 [l0, l1] [] H (gfd H 0 0 s0) := (rn_ev ..).trans (ev_gk rfl)
theorem x109_4 (l0 : Value) (l1 : Int32) (s0 : Nat) (H : HS) : rn 109 4 [l0, .int l1] [.ref s0] H = rn 109 5 [l0, .int l1] [.int l1, .ref s0] H := rn_nx rfl
theorem x109_5 (l0 l1 : Value) (s0 : Int32) (s1 : Nat) (H : HS) (h : recv H s1 1 = true) : rn 109 5 [l0, l1] [.int s0, .ref s1] H = bnd true 109 5 [l0, l1] [] (rcal 55 [.ref s1, .int s0] H) := rn_cal (vcal h rfl)
theorem x109_8 (l0 l1 : Value) (s0 : Int32) (H : HS) : rn 109 8 [l0, l1] [.int s0] H = if s0 = 0 then rn 109 11 [l0, l1] [] H else rn 109 21 [l0, l1] [] H := (rn_ev ..).trans (ev_bin rfl)
theorem x109_11 (l0 l1 : Value) (H : HS) : rn 109 11 [l0, l1] [] H = some (.inr 0, hsx H) := rn_end rfl
theorem x109_21 (l0 l1 : Value) (H : HS) : rn 109 21 [l0, l1] [] H = some (.inl none, H) := rn_end rfl
theorem c109 (a0 : Nat) (a1 : Int32) (H : HS) : rcal 109 [.ref a0, .int a1] H = rn 109 0 [.ref a0, .int a1] [] H := rfl
theorem x110_0 (l1 : Value) (l0 : Nat) (H : HS) : rn 110 0 [.ref l0, l1] [] H = rn 110 1 [.ref l0, l1] [.ref l0] H := rn_nx rfl
theorem x110_1 (l0 l1 : Value) (s0 : Nat) (H : HS) : rn 110 1 [l0, l1] [.ref s0] H = gk 110 4 [l0, l1] [] H (gfd H 0 0 s0) := (rn_ev ..).trans (ev_gk rfl)
theorem x110_4 (l0 : Value) (l1 : Int32) (s0 : Nat) (H : HS) : rn 110 4 [l0, .int l1] [.ref s0] H = rn 110 5 [l0, .int l1] [.int l1, .ref s0] H := rn_nx rfl
theorem x110_5 (l0 l1 : Value) (s0 : Int32) (s1 : Nat) (H : HS) (h : recv H s1 1 = true) : rn 110 5 [l0, l1] [.int s0, .ref s1] H = bnd true 110 5 [l0, l1] [] (rcal 56 [.ref s1, .int s0] H) := rn_cal (vcal h rfl)
theorem x110_8 (l0 l1 : Value) (s0 : Int32) (H : HS) : rn 110 8 [l0, l1] [.int s0] H = if s0 = 0 then rn 110 11 [l0, l1] [] H else rn 110 21 [l0, l1] [] H := (rn_ev ..).trans (ev_bin rfl)
theorem x110_11 (l0 l1 : Value) (H : HS) : rn 110 11 [l0, l1] [] H = some (.inr 0, hsx H) := rn_end rfl
theorem x110_21 (l0 l1 : Value) (H : HS) : rn 110 21 [l0, l1] [] H = some (.inl none, H) := rn_end rfl
theorem c110 (a0 : Nat) (a1 : Int32) (H : HS) : rcal 110 [.ref a0, .int a1] H = rn 110 0 [.ref a0, .int a1] [] H := rfl
theorem x111_0 (l0 : Nat) (H : HS) : rn 111 0 [.ref l0] [] H = rn 111 1 [.ref l0] [.ref l0] H := rn_nx rfl
theorem x111_1 (l0 : Value) (s0 : Nat) (H : HS) : rn 111 1 [l0] [.ref s0] H = gk 111 4 [l0] [] H (gfd H 0 0 s0) := (rn_ev ..).trans (ev_gk rfl)
theorem x111_4 (l0 : Value) (s0 : Nat) (H : HS) : rn 111 4 [l0] [.ref s0] H = gk 111 7 [l0] [] H (gfd H 1 5 s0) := (rn_ev ..).trans (ev_gk rfl)
theorem x111_7 (l0 : Value) (s0 : Int32) (H : HS) : rn 111 7 [l0] [.int s0] H = some (.inl (some (.int s0)), H) := rn_end rfl
theorem c111 (a0 : Nat) (H : HS) : rcal 111 [.ref a0] H = rn 111 0 [.ref a0] [] H := rfl
theorem x112_0 (l1 : Value) (l0 : Nat) (H : HS) : rn 112 0 [.ref l0, l1] [] H = rn 112 1 [.ref l0, l1] [.ref l0] H := rn_nx rfl
theorem x112_1 (l0 l1 : Value) (s0 : Nat) (H : HS) : rn 112 1 [l0, l1] [.ref s0] H = gk 112 4 [l0, l1] [] H (gfd H 0 0 s0) := (rn_ev ..).trans (ev_gk rfl)
theorem x112_4 (l0 : Value) (l1 : Int32) (s0 : Nat) (H : HS) : rn 112 4 [l0, .int l1] [.ref s0] H = rn 112 5 [l0, .int l1] [.int l1, .ref s0] H := rn_nx rfl
theorem x112_5 (l0 l1 : Value) (s0 : Int32) (s1 : Nat) (H : HS) (h : recv H s1 1 = true) : rn 112 5 [l0, l1] [.int s0, .ref s1] H = bnd true 112 5 [l0, l1] [] (rcal 58 [.ref s1, .int s0] H) := rn_cal (vcal h rfl)
theorem x112_8 (l0 l1 : Value) (H : HS) : rn 112 8 [l0, l1] [.null] H = rn 112 15 [l0, l1] [] H := rn_nx rfl
theorem x112_15 (l0 l1 : Value) (H : HS) : rn 112 15 [l0, l1] [] H = rn 112 16 [l0, l1] [.int 0] H := rn_nx rfl
theorem x112_16 (l0 l1 : Value) (s0 : Int32) (H : HS) : rn 112 16 [l0, l1] [.int s0] H = if fitp 1 (.int s0) = true then some (.inl (some (.int s0)), H) else none := (rn_ev ..).trans (ev_ret rfl)
theorem x112_8a (l0 l1 : Value) (s0 : Nat) (H : HS) : rn 112 8 [l0, l1] [.ref s0] H = rn 112 11 [l0, l1] [] H := rn_nx rfl
theorem x112_11 (l0 l1 : Value) (H : HS) : rn 112 11 [l0, l1] [] H = rn 112 12 [l0, l1] [.int 1] H := rn_nx rfl
theorem x112_12 (l0 l1 : Value) (s0 : Int32) (H : HS) : rn 112 12 [l0, l1] [.int s0] H = rn 112 16 [l0, l1] [.int s0] H := rn_nx rfl
theorem c112 (a0 : Nat) (a1 : Int32) (H : HS) : rcal 112 [.ref a0, .int a1] H = rn 112 0 [.ref a0, .int a1] [] H := rfl
theorem x113_0 (l1 : Value) (l0 : Nat) (H : HS) : rn 113 0 [.ref l0, l1] [] H = rn 113 1 [.ref l0, l1] [.ref l0] H := rn_nx rfl
theorem x113_1 (l0 : Value) (l1 : Int32) (s0 : Nat) (H : HS) : rn 113 1 [l0, .int l1] [.ref s0] H = rn 113 2 [l0, .int l1] [.int l1, .ref s0] H := rn_nx rfl
theorem x113_2 (l0 l1 : Value) (s0 : Int32) (s1 : Nat) (H : HS) (h : recv H s1 0 = true) : rn 113 2 [l0, l1] [.int s0, .ref s1] H = bnd true 113 2 [l0, l1] [] (rcal 124 [.ref s1, .int s0] H) := rn_cal (vcal h rfl)
theorem x113_5 (l0 l1 : Value) (s0 : Nat) (H : HS) : rn 113 5 [l0, l1] [.ref s0] H = gk 113 8 [l0, l1] [] H (gfd H 2 0 s0) := (rn_ev ..).trans (ev_gk rfl)
theorem x113_8 (l0 l1 : Value) (s0 : Nat) (H : HS) : rn 113 8 [l0, l1] [.ref s0] H = rn 113 11 [l0, l1] [.ref 2, .ref s0] H := rn_nx rfl
theorem x113_11 (l0 l1 : Value) (s0 : Nat) (s1 : Nat) (H : HS) : rn 113 11 [l0, l1] [.ref s0, .ref s1] H = qk 113 14 18 [l0, l1] [] H (req H (.ref s1) (.ref s0)) := (rn_ev ..).trans (ev_qn rfl)
theorem x113_14 (l0 l1 : Value) (H : HS) : rn 113 14 [l0, l1] [] H = rn 113 15 [l0, l1] [.int 1] H := rn_nx rfl
theorem x113_15 (l0 l1 : Value) (s0 : Int32) (H : HS) : rn 113 15 [l0, l1] [.int s0] H = rn 113 19 [l0, l1] [.int s0] H := rn_nx rfl
theorem x113_19 (l0 l1 : Value) (s0 : Int32) (H : HS) : rn 113 19 [l0, l1] [.int s0] H = if fitp 1 (.int s0) = true then some (.inl (some (.int s0)), H) else none := (rn_ev ..).trans (ev_ret rfl)
theorem x113_18 (l0 l1 : Value) (H : HS) : rn 113 18 [l0, l1] [] H = rn 113 19 [l0, l1] [.int 0] H := rn_nx rfl
theorem c113 (a0 : Nat) (a1 : Int32) (H : HS) : rcal 113 [.ref a0, .int a1] H = rn 113 0 [.ref a0, .int a1] [] H := rfl
theorem x114_0 (l1 : Value) (l0 : Nat) (H : HS) : rn 114 0 [.ref l0, l1] [] H = rn 114 1 [.ref l0, l1] [.ref l0] H := rn_nx rfl
theorem x114_1 (l0 : Value) (l1 : Int32) (s0 : Nat) (H : HS) : rn 114 1 [l0, .int l1] [.ref s0] H = rn 114 2 [l0, .int l1] [.int l1, .ref s0] H := rn_nx rfl
theorem x114_2 (l0 l1 : Value) (s0 : Int32) (s1 : Nat) (H : HS) (h : recv H s1 0 = true) : rn 114 2 [l0, l1] [.int s0, .ref s1] H = bnd true 114 2 [l0, l1] [] (rcal 124 [.ref s1, .int s0] H) := rn_cal (vcal h rfl)
theorem x114_5 (l0 l1 : Value) (s0 : Nat) (H : HS) : rn 114 5 [l0, l1] [.ref s0] H = gk 114 8 [l0, l1] [] H (gfd H 2 9 s0) := (rn_ev ..).trans (ev_gk rfl)
theorem x114_8 (l0 l1 : Value) (s0 : Int32) (H : HS) : rn 114 8 [l0, l1] [.int s0] H = if fitp 1 (.int s0) = true then some (.inl (some (.int s0)), H) else none := (rn_ev ..).trans (ev_ret rfl)
theorem c114 (a0 : Nat) (a1 : Int32) (H : HS) : rcal 114 [.ref a0, .int a1] H = rn 114 0 [.ref a0, .int a1] [] H := rfl
theorem x115_0 (l1 l2 : Value) (l0 : Nat) (H : HS) : rn 115 0 [.ref l0, l1, l2] [] H = rn 115 1 [.ref l0, l1, l2] [.ref l0] H := rn_nx rfl
theorem x115_1 (l0 l2 : Value) (l1 : Int32) (s0 : Nat) (H : HS) : rn 115 1 [l0, .int l1, l2] [.ref s0] H = rn 115 2 [l0, .int l1, l2] [.int l1, .ref s0] H := rn_nx rfl
theorem x115_2 (l0 l1 l2 : Value) (s0 : Int32) (s1 : Nat) (H : HS) (h : recv H s1 0 = true) : rn 115 2 [l0, l1, l2] [.int s0, .ref s1] H = bnd true 115 2 [l0, l1, l2] [] (rcal 124 [.ref s1, .int s0] H) := rn_cal (vcal h rfl)
theorem x115_5 (l0 l1 l2 : Value) (s0 : Nat) (H : HS) : rn 115 5 [l0, l1, l2] [.ref s0] H = rn 115 6 [l0, (kl l1), .ref s0] [] H := rn_nx rfl
theorem x115_6 (l0 l1 : Value) (l2 : Nat) (H : HS) : rn 115 6 [l0, l1, .ref l2] [] H = rn 115 7 [l0, l1, .ref l2] [.ref l2] H := rn_nx rfl
theorem x115_7 (l0 l1 l2 : Value) (s0 : Nat) (H : HS) : rn 115 7 [l0, l1, l2] [.ref s0] H = gk 115 10 [l0, l1, l2] [] H (gfd H 2 0 s0) := (rn_ev ..).trans (ev_gk rfl)
theorem x115_10 (l0 l1 l2 : Value) (s0 : Nat) (H : HS) : rn 115 10 [l0, l1, l2] [.ref s0] H = rn 115 13 [l0, l1, l2] [.ref 3, .ref s0] H := rn_nx rfl
theorem x115_13 (l0 l1 l2 : Value) (s0 : Nat) (s1 : Nat) (H : HS) : rn 115 13 [l0, l1, l2] [.ref s0, .ref s1] H = qk 115 26 16 [l0, l1, l2] [] H (req H (.ref s1) (.ref s0)) := (rn_ev ..).trans (ev_qe rfl)
theorem x115_16 (l0 l1 l2 : Value) (H : HS) : rn 115 16 [l0, l1, l2] [] H = some (.inr 2, hsx H) := rn_end rfl
theorem x115_26 (l0 l1 : Value) (l2 : Nat) (H : HS) : rn 115 26 [l0, l1, .ref l2] [] H = rn 115 27 [l0, l1, .ref l2] [.ref l2] H := rn_nx rfl
theorem x115_27 (l0 l1 l2 : Value) (s0 : Nat) (H : HS) : rn 115 27 [l0, l1, l2] [.ref s0] H = gk 115 30 [l0, l1, l2] [] H (gfd H 2 6 s0) := (rn_ev ..).trans (ev_gk rfl)
theorem x115_30 (l0 l1 l2 : Value) (s0 : Int32) (H : HS) : rn 115 30 [l0, l1, l2] [.int s0] H = some (.inl (some (.int s0)), H) := rn_end rfl
theorem c115 (a0 : Nat) (a1 : Int32) (H : HS) : rcal 115 [.ref a0, .int a1] H = rn 115 0 [.ref a0, .int a1, un] [] H := rfl
theorem x116_0 (l1 : Value) (l0 : Nat) (H : HS) : rn 116 0 [.ref l0, l1] [] H = rn 116 1 [.ref l0, l1] [.ref l0] H := rn_nx rfl
theorem x116_1 (l0 : Value) (l1 : Int32) (s0 : Nat) (H : HS) : rn 116 1 [l0, .int l1] [.ref s0] H = rn 116 2 [l0, .int l1] [.int l1, .ref s0] H := rn_nx rfl
theorem x116_2 (l0 l1 : Value) (s0 : Int32) (s1 : Nat) (H : HS) (h : recv H s1 0 = true) : rn 116 2 [l0, l1] [.int s0, .ref s1] H = bnd true 116 2 [l0, l1] [] (rcal 125 [.ref s1, .int s0] H) := rn_cal (vcal h rfl)
theorem x116_5 (l0 l1 : Value) (s0 : Nat) (H : HS) : rn 116 5 [l0, l1] [.ref s0] H = gk 116 8 [l0, l1] [] H (gfd H 2 7 s0) := (rn_ev ..).trans (ev_gk rfl)
theorem x116_8 (l0 l1 : Value) (s0 : Int32) (H : HS) : rn 116 8 [l0, l1] [.int s0] H = some (.inl (some (.int s0)), H) := rn_end rfl
theorem c116 (a0 : Nat) (a1 : Int32) (H : HS) : rcal 116 [.ref a0, .int a1] H = rn 116 0 [.ref a0, .int a1] [] H := rfl
theorem x117_0 (l1 : Value) (l0 : Nat) (H : HS) : rn 117 0 [.ref l0, l1] [] H = rn 117 1 [.ref l0, l1] [.ref l0] H := rn_nx rfl
theorem x117_1 (l0 : Value) (l1 : Int32) (s0 : Nat) (H : HS) : rn 117 1 [l0, .int l1] [.ref s0] H = rn 117 2 [l0, .int l1] [.int l1, .ref s0] H := rn_nx rfl
theorem x117_2 (l0 l1 : Value) (s0 : Int32) (s1 : Nat) (H : HS) (h : recv H s1 0 = true) : rn 117 2 [l0, l1] [.int s0, .ref s1] H = bnd true 117 2 [l0, l1] [] (rcal 125 [.ref s1, .int s0] H) := rn_cal (vcal h rfl)
theorem x117_5 (l0 l1 : Value) (s0 : Nat) (H : HS) : rn 117 5 [l0, l1] [.ref s0] H = gk 117 8 [l0, l1] [] H (gfd H 2 8 s0) := (rn_ev ..).trans (ev_gk rfl)
theorem x117_8 (l0 l1 : Value) (s0 : Int32) (H : HS) : rn 117 8 [l0, l1] [.int s0] H = some (.inl (some (.int s0)), H) := rn_end rfl
theorem c117 (a0 : Nat) (a1 : Int32) (H : HS) : rcal 117 [.ref a0, .int a1] H = rn 117 0 [.ref a0, .int a1] [] H := rfl
theorem x118_0 (l1 : Value) (l0 : Nat) (H : HS) : rn 118 0 [.ref l0, l1] [] H = rn 118 1 [.ref l0, l1] [.ref l0] H := rn_nx rfl
theorem x118_1 (l0 : Value) (l1 : Int32) (s0 : Nat) (H : HS) : rn 118 1 [l0, .int l1] [.ref s0] H = rn 118 2 [l0, .int l1] [.int l1, .ref s0] H := rn_nx rfl
theorem x118_2 (l0 l1 : Value) (s0 : Int32) (s1 : Nat) (H : HS) (h : recv H s1 0 = true) : rn 118 2 [l0, l1] [.int s0, .ref s1] H = bnd true 118 2 [l0, l1] [] (rcal 124 [.ref s1, .int s0] H) := rn_cal (vcal h rfl)
theorem x118_5 (l0 l1 : Value) (s0 : Nat) (H : HS) : rn 118 5 [l0, l1] [.ref s0] H = gk 118 8 [l0, l1] [] H (gfd H 2 10 s0) := (rn_ev ..).trans (ev_gk rfl)
theorem x118_8 (l0 l1 : Value) (s0 : Int32) (H : HS) : rn 118 8 [l0, l1] [.int s0] H = some (.inl (some (.int s0)), H) := rn_end rfl
theorem c118 (a0 : Nat) (a1 : Int32) (H : HS) : rcal 118 [.ref a0, .int a1] H = rn 118 0 [.ref a0, .int a1] [] H := rfl
theorem x119_0 (l1 : Value) (l0 : Nat) (H : HS) : rn 119 0 [.ref l0, l1] [] H = rn 119 1 [.ref l0, l1] [.ref l0] H := rn_nx rfl
theorem x119_1 (l0 : Value) (l1 : Int32) (s0 : Nat) (H : HS) : rn 119 1 [l0, .int l1] [.ref s0] H = rn 119 2 [l0, .int l1] [.int l1, .ref s0] H := rn_nx rfl
theorem x119_2 (l0 l1 : Value) (s0 : Int32) (s1 : Nat) (H : HS) (h : recv H s1 0 = true) : rn 119 2 [l0, l1] [.int s0, .ref s1] H = bnd true 119 2 [l0, l1] [] (rcal 124 [.ref s1, .int s0] H) := rn_cal (vcal h rfl)
theorem x119_5 (l0 l1 : Value) (s0 : Nat) (H : HS) : rn 119 5 [l0, l1] [.ref s0] H = gk 119 8 [l0, l1] [] H (gfd H 2 5 s0) := (rn_ev ..).trans (ev_gk rfl)
theorem x119_8 (l0 l1 : Value) (s0 : Int32) (H : HS) : rn 119 8 [l0, l1] [.int s0] H = some (.inl (some (.int s0)), H) := rn_end rfl
theorem c119 (a0 : Nat) (a1 : Int32) (H : HS) : rcal 119 [.ref a0, .int a1] H = rn 119 0 [.ref a0, .int a1] [] H := rfl
theorem x120_0 (l1 l2 : Value) (l0 : Nat) (H : HS) : rn 120 0 [.ref l0, l1, l2] [] H = rn 120 1 [.ref l0, l1, l2] [.ref l0] H := rn_nx rfl
theorem x120_1 (l0 l2 : Value) (l1 : Int32) (s0 : Nat) (H : HS) : rn 120 1 [l0, .int l1, l2] [.ref s0] H = rn 120 2 [l0, .int l1, l2] [.int l1, .ref s0] H := rn_nx rfl
theorem x120_2 (l0 l1 l2 : Value) (s0 : Int32) (s1 : Nat) (H : HS) (h : recv H s1 0 = true) : rn 120 2 [l0, l1, l2] [.int s0, .ref s1] H = bnd true 120 2 [l0, l1, l2] [] (rcal 124 [.ref s1, .int s0] H) := rn_cal (vcal h rfl)
theorem x120_5 (l0 l1 l2 : Value) (s0 : Nat) (H : HS) : rn 120 5 [l0, l1, l2] [.ref s0] H = rn 120 6 [l0, (kl l1), .ref s0] [] H := rn_nx rfl
theorem x120_6 (l1 l2 : Value) (l0 : Nat) (H : HS) : rn 120 6 [.ref l0, l1, l2] [] H = rn 120 7 [.ref l0, l1, l2] [.ref l0] H := rn_nx rfl
theorem x120_7 (l0 l1 l2 : Value) (s0 : Nat) (H : HS) : rn 120 7 [l0, l1, l2] [.ref s0] H = gk 120 10 [l0, l1, l2] [] H (gfd H 0 0 s0) := (rn_ev ..).trans (ev_gk rfl)
theorem x120_10 (l0 l1 : Value) (l2 : Nat) (s0 : Nat) (H : HS) : rn 120 10 [l0, l1, .ref l2] [.ref s0] H = rn 120 11 [l0, l1, .ref l2] [.ref l2, .ref s0] H := rn_nx rfl
theorem x120_11 (l0 l1 l2 : Value) (s0 : Nat) (s1 : Nat) (H : HS) (h : recv H s1 1 = true) : rn 120 11 [l0, l1, l2] [.ref s0, .ref s1] H = bnd true 120 11 [l0, l1, l2] [] (rcal 63 [.ref s1, .ref s0] H) := rn_cal (vcal h rfl)
theorem x120_14 (l0 l1 l2 : Value) (s0 : Int32) (H : HS) : rn 120 14 [l0, l1, l2] [.int s0] H = if s0 = 0 then rn 120 17 [l0, l1, l2] [] H else rn 120 27 [l0, l1, l2] [] H := (rn_ev ..).trans (ev_bin rfl)
theorem x120_17 (l0 l1 l2 : Value) (H : HS) : rn 120 17 [l0, l1, l2] [] H = some (.inr 2, hsx H) := rn_end rfl
theorem x120_27 (l1 l2 : Value) (l0 : Nat) (H : HS) : rn 120 27 [.ref l0, l1, l2] [] H = rn 120 28 [.ref l0, l1, l2] [.ref l0] H := rn_nx rfl
theorem x120_28 (l0 l1 l2 : Value) (s0 : Nat) (H : HS) : rn 120 28 [l0, l1, l2] [.ref s0] H = gk 120 31 [l0, l1, l2] [] H (gfd H 0 2 s0) := (rn_ev ..).trans (ev_gk rfl)
theorem x120_31 (l1 l2 : Value) (l0 : Nat) (s0 : Nat) (H : HS) : rn 120 31 [.ref l0, l1, l2] [.ref s0] H = rn 120 32 [.ref l0, l1, l2] [.ref l0, .ref s0] H := rn_nx rfl
theorem x120_32 (l0 l1 l2 : Value) (s0 : Nat) (s1 : Nat) (H : HS) : rn 120 32 [l0, l1, l2] [.ref s0, .ref s1] H = gk 120 35 [l0, l1, l2] [.ref s1] H (gfd H 0 0 s0) := (rn_ev ..).trans (ev_gk rfl)
theorem x120_35 (l0 l2 : Value) (l1 : Int32) (s0 : Nat) (s1 : Nat) (H : HS) : rn 120 35 [l0, .int l1, l2] [.ref s0, .ref s1] H = rn 120 36 [l0, .int l1, l2] [.int l1, .ref s0, .ref s1] H := rn_nx rfl
theorem x120_36 (l0 l1 l2 : Value) (s0 : Int32) (s1 : Nat) (s2 : Nat) (H : HS) (h : recv H s2 1 = true) : rn 120 36 [l0, l1, l2] [.int s0, .ref s1, .ref s2] H = bnd true 120 36 [l0, l1, l2] [] (rcal 51 [.ref s2, .ref s1, .int s0] H) := rn_cal (vcal h rfl)
theorem x120_39 (l1 l2 : Value) (l0 : Nat) (H : HS) : rn 120 39 [.ref l0, l1, l2] [] H = rn 120 40 [.ref l0, l1, l2] [.ref l0] H := rn_nx rfl
theorem x120_40 (l0 l1 l2 : Value) (s0 : Nat) (H : HS) : rn 120 40 [l0, l1, l2] [.ref s0] H = gk 120 43 [l0, l1, l2] [] H (gfd H 0 2 s0) := (rn_ev ..).trans (ev_gk rfl)
theorem x120_43 (l0 l2 : Value) (l1 : Int32) (s0 : Nat) (H : HS) : rn 120 43 [l0, .int l1, l2] [.ref s0] H = rn 120 44 [l0, .int l1, l2] [.int l1, .ref s0] H := rn_nx rfl
theorem x120_44 (l0 l1 l2 : Value) (s0 : Int32) (s1 : Nat) (H : HS) (h : recv H s1 1 = true) : rn 120 44 [l0, l1, l2] [.int s0, .ref s1] H = bnd true 120 44 [l0, l1, l2] [] (rcal 52 [.ref s1, .int s0] H) := rn_cal (vcal h rfl)
theorem x120_47 (l0 l1 l2 : Value) (s0 : Int32) (H : HS) : rn 120 47 [l0, l1, l2] [.int s0] H = some (.inl (some (.int s0)), H) := rn_end rfl
theorem c120 (a0 : Nat) (a1 : Int32) (H : HS) : rcal 120 [.ref a0, .int a1] H = rn 120 0 [.ref a0, .int a1, un] [] H := rfl
theorem x121_0 (l1 l2 : Value) (l0 : Nat) (H : HS) : rn 121 0 [.ref l0, l1, l2] [] H = rn 121 1 [.ref l0, l1, l2] [.ref l0] H := rn_nx rfl
theorem x121_1 (l0 l2 : Value) (l1 : Int32) (s0 : Nat) (H : HS) : rn 121 1 [l0, .int l1, l2] [.ref s0] H = rn 121 2 [l0, .int l1, l2] [.int l1, .ref s0] H := rn_nx rfl
theorem x121_2 (l0 l1 l2 : Value) (s0 : Int32) (s1 : Nat) (H : HS) (h : recv H s1 0 = true) : rn 121 2 [l0, l1, l2] [.int s0, .ref s1] H = bnd true 121 2 [l0, l1, l2] [] (rcal 124 [.ref s1, .int s0] H) := rn_cal (vcal h rfl)
theorem x121_5 (l0 l1 l2 : Value) (s0 : Nat) (H : HS) : rn 121 5 [l0, l1, l2] [.ref s0] H = rn 121 6 [l0, l1, l2] [] H := rn_nx rfl
theorem x121_6 (l1 l2 : Value) (l0 : Nat) (H : HS) : rn 121 6 [.ref l0, l1, l2] [] H = rn 121 7 [.ref l0, l1, l2] [.ref l0] H := rn_nx rfl
theorem x121_7 (l0 l1 l2 : Value) (s0 : Nat) (H : HS) : rn 121 7 [l0, l1, l2] [.ref s0] H = gk 121 10 [l0, l1, l2] [] H (gfd H 0 2 s0) := (rn_ev ..).trans (ev_gk rfl)
theorem x121_10 (l1 l2 : Value) (l0 : Nat) (s0 : Nat) (H : HS) : rn 121 10 [.ref l0, l1, l2] [.ref s0] H = rn 121 11 [.ref l0, l1, l2] [.ref l0, .ref s0] H := rn_nx rfl
theorem x121_11 (l0 l1 l2 : Value) (s0 : Nat) (s1 : Nat) (H : HS) : rn 121 11 [l0, l1, l2] [.ref s0, .ref s1] H = gk 121 14 [l0, l1, l2] [.ref s1] H (gfd H 0 0 s0) := (rn_ev ..).trans (ev_gk rfl)
theorem x121_14 (l0 l1 l2 : Value) (s0 : Nat) (s1 : Nat) (H : HS) (h : recv H s1 1 = true) : rn 121 14 [l0, l1, l2] [.ref s0, .ref s1] H = bnd true 121 14 [l0, l1, l2] [] (rcal 35 [.ref s1, .ref s0] H) := rn_cal (vcal h rfl)
theorem x121_17 (l1 l2 : Value) (l0 : Nat) (H : HS) : rn 121 17 [.ref l0, l1, l2] [] H = rn 121 18 [.ref l0, l1, l2] [.ref l0] H := rn_nx rfl
theorem x121_18 (l0 l1 l2 : Value) (s0 : Nat) (H : HS) : rn 121 18 [l0, l1, l2] [.ref s0] H = gk 121 21 [l0, l1, l2] [] H (gfd H 0 2 s0) := (rn_ev ..).trans (ev_gk rfl)
theorem x121_21 (l0 l2 : Value) (l1 : Int32) (s0 : Nat) (H : HS) : rn 121 21 [l0, .int l1, l2] [.ref s0] H = rn 121 22 [l0, .int l1, l2] [.int l1, .ref s0] H := rn_nx rfl
theorem x121_22 (l0 l1 l2 : Value) (s0 : Int32) (s1 : Nat) (H : HS) (h : recv H s1 1 = true) : rn 121 22 [l0, l1, l2] [.int s0, .ref s1] H = bnd true 121 22 [l0, l1, l2] [] (rcal 52 [.ref s1, .int s0] H) := rn_cal (vcal h rfl)
theorem x121_25 (l0 l1 l2 : Value) (s0 : Int32) (H : HS) : rn 121 25 [l0, l1, l2] [.int s0] H = rn 121 26 [l0, (kl l1), .int s0] [] H := rn_nx rfl
theorem x121_26 (l0 l1 : Value) (l2 : Int32) (H : HS) : rn 121 26 [l0, l1, .int l2] [] H = rn 121 27 [l0, l1, .int l2] [.int l2] H := rn_nx rfl
theorem x121_27 (l0 l1 l2 : Value) (s0 : Int32) (H : HS) : rn 121 27 [l0, l1, l2] [.int s0] H = rn 121 28 [l0, l1, l2] [.int (-1), .int s0] H := rn_nx rfl
theorem x121_28 (l0 l1 l2 : Value) (s0 : Int32) (s1 : Int32) (H : HS) : rn 121 28 [l0, l1, l2] [.int s0, .int s1] H = if s1 = s0 then rn 121 31 [l0, l1, l2] [] H else rn 121 41 [l0, l1, l2] [] H := (rn_ev ..).trans (ev_bin rfl)
theorem x121_31 (l0 l1 l2 : Value) (H : HS) : rn 121 31 [l0, l1, l2] [] H = some (.inr 3, hsx H) := rn_end rfl
theorem x121_41 (l0 l1 : Value) (l2 : Int32) (H : HS) : rn 121 41 [l0, l1, .int l2] [] H = rn 121 42 [l0, l1, .int l2] [.int l2] H := rn_nx rfl
theorem x121_42 (l0 l1 l2 : Value) (s0 : Int32) (H : HS) : rn 121 42 [l0, l1, l2] [.int s0] H = some (.inl (some (.int s0)), H) := rn_end rfl
theorem c121 (a0 : Nat) (a1 : Int32) (H : HS) : rcal 121 [.ref a0, .int a1] H = rn 121 0 [.ref a0, .int a1, un] [] H := rfl
theorem x122_0 (l0 : Nat) (H : HS) : rn 122 0 [.ref l0] [] H = rn 122 1 [.ref l0] [.ref l0] H := rn_nx rfl
theorem x122_1 (l0 : Value) (s0 : Nat) (H : HS) : rn 122 1 [l0] [.ref s0] H = gk 122 4 [l0] [] H (gfd H 0 2 s0) := (rn_ev ..).trans (ev_gk rfl)
theorem x122_4 (l0 : Nat) (s0 : Nat) (H : HS) : rn 122 4 [.ref l0] [.ref s0] H = rn 122 5 [.ref l0] [.ref l0, .ref s0] H := rn_nx rfl
theorem x122_5 (l0 : Value) (s0 : Nat) (s1 : Nat) (H : HS) : rn 122 5 [l0] [.ref s0, .ref s1] H = gk 122 8 [l0] [.ref s1] H (gfd H 0 0 s0) := (rn_ev ..).trans (ev_gk rfl)
theorem x122_8 (l0 : Value) (s0 : Nat) (s1 : Nat) (H : HS) (h : recv H s1 1 = true) : rn 122 8 [l0] [.ref s0, .ref s1] H = bnd true 122 8 [l0] [] (rcal 35 [.ref s1, .ref s0] H) := rn_cal (vcal h rfl)
theorem x122_11 (l0 : Nat) (H : HS) : rn 122 11 [.ref l0] [] H = rn 122 12 [.ref l0] [.ref l0] H := rn_nx rfl
theorem x122_12 (l0 : Value) (s0 : Nat) (H : HS) : rn 122 12 [l0] [.ref s0] H = gk 122 15 [l0] [] H (gfd H 0 2 s0) := (rn_ev ..).trans (ev_gk rfl)
theorem x122_15 (l0 : Value) (s0 : Nat) (H : HS) (h : recv H s0 1 = true) : rn 122 15 [l0] [.ref s0] H = bnd true 122 15 [l0] [] (rcal 53 [.ref s0] H) := rn_cal (vcal h rfl)
theorem x122_18 (l0 : Value) (s0 : Int32) (H : HS) : rn 122 18 [l0] [.int s0] H = some (.inl (some (.int s0)), H) := rn_end rfl
theorem c122 (a0 : Nat) (H : HS) : rcal 122 [.ref a0] H = rn 122 0 [.ref a0] [] H := rfl
theorem x123_0 (l1 l2 l3 l4 l5 : Value) (l0 : Nat) (H : HS) : rn 123 0 [.ref l0, l1, l2, l3, l4, l5] [] H = rn 123 1 [.ref l0, l1, l2, l3, l4, l5] [.ref l0] H := rn_nx rfl
theorem x123_1 (l0 l1 l2 l3 l4 l5 : Value) (s0 : Nat) (H : HS) : rn 123 1 [l0, l1, l2, l3, l4, l5] [.ref s0] H = gk 123 4 [l0, l1, l2, l3, l4, l5] [] H (gfd H 0 0 s0) := (rn_ev ..).trans (ev_gk rfl)
theorem x123_4 (l0 l1 l2 l3 l4 l5 : Value) (s0 : Nat) (H : HS) : rn 123 4 [l0, l1, l2, l3, l4, l5] [.ref s0] H = gk 123 7 [l0, l1, l2, l3, l4, l5] [] H (gfd H 1 4 s0) := (rn_ev ..).trans (ev_gk rfl)
theorem x123_7 (l0 l1 l2 l3 l4 l5 : Value) (s0 : Nat) (H : HS) : rn 123 7 [l0, l1, l2, l3, l4, l5] [.ref s0] H = rn 123 8 [l0, (kl l1), .ref s0, l3, l4, l5] [] H := rn_nx rfl
theorem x123_8 (l0 l1 l3 l4 l5 : Value) (l2 : Nat) (H : HS) : rn 123 8 [l0, l1, .ref l2, l3, l4, l5] [] H = rn 123 9 [l0, l1, .ref l2, l3, l4, l5] [.ref l2] H := rn_nx rfl
theorem x123_9 (l0 l1 l2 l3 l4 l5 : Value) (s0 : Nat) (H : HS) : rn 123 9 [l0, l1, l2, l3, l4, l5] [.ref s0] H = gk 123 10 [l0, l1, l2, l3, l4, l5] [] H (alen H s0) := (rn_ev ..).trans (ev_gk rfl)
theorem x123_10 (l0 l1 l2 l3 l4 l5 : Value) (s0 : Int32) (H : HS) : rn 123 10 [l0, l1, l2, l3, l4, l5] [.int s0] H = rn 123 11 [l0, l1, (kl l2), .int s0, l4, l5] [] H := rn_nx rfl
theorem x123_11 (l0 l1 l2 l3 l4 l5 : Value) (H : HS) : rn 123 11 [l0, l1, l2, l3, l4, l5] [] H = rn 123 12 [l0, l1, l2, l3, l4, l5] [.int 0] H := rn_nx rfl
theorem x123_12 (l0 l1 l2 l3 l4 l5 : Value) (s0 : Int32) (H : HS) : rn 123 12 [l0, l1, l2, l3, l4, l5] [.int s0] H = rn 123 14 [l0, l1, l2, (kl l3), .int s0, l5] [] H := rn_nx rfl
theorem x123_14 (l0 l1 l2 l3 l5 : Value) (l4 : Int32) (H : HS) : rn 123 14 [l0, l1, l2, l3, .int l4, l5] [] H = rn 123 16 [l0, l1, l2, l3, .int l4, l5] [.int l4] H := rn_nx rfl
theorem x123_16 (l0 l1 l2 l4 l5 : Value) (l3 : Int32) (s0 : Int32) (H : HS) : rn 123 16 [l0, l1, l2, .int l3, l4, l5] [.int s0] H = rn 123 17 [l0, l1, l2, .int l3, l4, l5] [.int l3, .int s0] H := rn_nx rfl
theorem x123_17 (l0 l1 l2 l3 l4 l5 : Value) (s0 : Int32) (s1 : Int32) (H : HS) : rn 123 17 [l0, l1, l2, l3, l4, l5] [.int s0, .int s1] H = if s1 < s0 then rn 123 20 [l0, l1, l2, l3, l4, l5] [] H else rn 123 59 [l0, l1, l2, l3, l4, l5] [] H := (rn_ev ..).trans (ev_bin rfl)
theorem x123_20 (l0 l1 l3 l4 l5 : Value) (l2 : Nat) (H : HS) : rn 123 20 [l0, l1, .ref l2, l3, l4, l5] [] H = rn 123 21 [l0, l1, .ref l2, l3, l4, l5] [.ref l2] H := rn_nx rfl
theorem x123_21 (l0 l1 l2 l3 l5 : Value) (l4 : Int32) (s0 : Nat) (H : HS) : rn 123 21 [l0, l1, l2, l3, .int l4, l5] [.ref s0] H = rn 123 23 [l0, l1, l2, l3, .int l4, l5] [.int l4, .ref s0] H := rn_nx rfl
theorem x123_23 (l0 l1 l2 l3 l4 l5 : Value) (s0 : Int32) (s1 : Nat) (H : HS) : rn 123 23 [l0, l1, l2, l3, l4, l5] [.int s0, .ref s1] H = gk 123 24 [l0, l1, l2, l3, l4, l5] [] H (aald H s1 s0) := (rn_ev ..).trans (ev_gk rfl)
theorem x123_24 (l0 l1 l2 l3 l4 l5 : Value) (s0 : Nat) (H : HS) : rn 123 24 [l0, l1, l2, l3, l4, l5] [.ref s0] H = rn 123 26 [l0, l1, l2, l3, (kl l4), .ref s0] [] H := rn_nx rfl
theorem x123_26 (l0 l1 l2 l3 l4 : Value) (l5 : Nat) (H : HS) : rn 123 26 [l0, l1, l2, l3, l4, .ref l5] [] H = rn 123 28 [l0, l1, l2, l3, l4, .ref l5] [.ref l5] H := rn_nx rfl
theorem x123_28 (l0 l1 l2 l3 l4 l5 : Value) (s0 : Nat) (H : HS) (h : recv H s0 2 = true) : rn 123 28 [l0, l1, l2, l3, l4, l5] [.ref s0] H = bnd true 123 28 [l0, l1, l2, l3, l4, l5] [] (rcal 82 [.ref s0] H) := rn_cal (vcal h rfl)
theorem x123_31 (l0 l1 l2 l3 l4 l5 : Value) (s0 : Int32) (H : HS) : rn 123 31 [l0, l1, l2, l3, l4, l5] [.int s0] H = if s0 = 0 then rn 123 53 [l0, l1, l2, l3, l4, l5] [] H else rn 123 34 [l0, l1, l2, l3, l4, l5] [] H := (rn_ev ..).trans (ev_bif rfl)
theorem x123_34 (l1 l2 l3 l4 l5 : Value) (l0 : Nat) (H : HS) : rn 123 34 [.ref l0, l1, l2, l3, l4, l5] [] H = rn 123 35 [.ref l0, l1, l2, l3, l4, l5] [.ref l0] H := rn_nx rfl
theorem x123_35 (l0 l1 l2 l3 l4 l5 : Value) (s0 : Nat) (H : HS) : rn 123 35 [l0, l1, l2, l3, l4, l5] [.ref s0] H = gk 123 38 [l0, l1, l2, l3, l4, l5] [] H (gfd H 0 0 s0) := (rn_ev ..).trans (ev_gk rfl)
theorem x123_38 (l0 l1 l2 l3 l4 : Value) (l5 : Nat) (s0 : Nat) (H : HS) : rn 123 38 [l0, l1, l2, l3, l4, .ref l5] [.ref s0] H = rn 123 40 [l0, l1, l2, l3, l4, .ref l5] [.ref l5, .ref s0] H := rn_nx rfl
theorem x123_40 (l0 l1 l2 l3 l4 l5 : Value) (s0 : Nat) (s1 : Nat) (H : HS) (h : recv H s1 1 = true) : rn 123 40 [l0, l1, l2, l3, l4, l5] [.ref s0, .ref s1] H = bnd true 123 40 [l0, l1, l2, l3, l4, l5] [] (rcal 64 [.ref s1, .ref s0] H) := rn_cal (vcal h rfl)
theorem x123_43 (l0 l2 l3 l4 l5 : Value) (l1 : Int32) (s0 : Int32) (H : HS) : rn 123 43 [l0, .int l1, l2, l3, l4, l5] [.int s0] H = rn 123 44 [l0, .int l1, l2, l3, l4, l5] [.int l1, .int s0] H := rn_nx rfl
theorem x123_44 (l0 l1 l2 l3 l4 l5 : Value) (s0 : Int32) (s1 : Int32) (H : HS) : rn 123 44 [l0, l1, l2, l3, l4, l5] [.int s0, .int s1] H = if s1 = s0 then rn 123 47 [l0, l1, l2, l3, l4, l5] [] H else rn 123 53 [l0, l1, l2, l3, l4, l5] [] H := (rn_ev ..).trans (ev_bin rfl)
theorem x123_47 (l0 l1 l2 l3 l4 : Value) (l5 : Nat) (H : HS) : rn 123 47 [l0, l1, l2, l3, l4, .ref l5] [] H = rn 123 49 [l0, l1, l2, l3, l4, .ref l5] [.ref l5] H := rn_nx rfl
theorem x123_49 (l0 l1 l2 l3 l4 l5 : Value) (s0 : Nat) (H : HS) : rn 123 49 [l0, l1, l2, l3, l4, l5] [.ref s0] H = gk 123 52 [l0, l1, l2, l3, l4, l5] [] H (gfd H 2 1 s0) := (rn_ev ..).trans (ev_gk rfl)
theorem x123_52 (l0 l1 l2 l3 l4 l5 : Value) (s0 : Int32) (H : HS) : rn 123 52 [l0, l1, l2, l3, l4, l5] [.int s0] H = some (.inl (some (.int s0)), H) := rn_end rfl
theorem x123_53 (l0 l1 l2 l3 l5 : Value) (l4 : Int32) (H : HS) : rn 123 53 [l0, l1, l2, l3, .int l4, l5] [] H = rn 123 56 [l0, l1, l2, (kl l3), .int (l4 + 1), l5] [] H := rn_nx rfl
theorem x123_56 (l0 l1 l2 l3 l4 l5 : Value) (H : HS) : rn 123 56 [l0, l1, l2, l3, l4, l5] [] H = rn 123 14 [l0, l1, l2, l3, l4, l5] [] H := rn_nx rfl
theorem x123_59 (l0 l1 l2 l3 l4 l5 : Value) (H : HS) : rn 123 59 [l0, l1, l2, l3, l4, l5] [] H = some (.inr 3, hsx H) := rn_end rfl
theorem c123 (a0 : Nat) (a1 : Int32) (H : HS) : rcal 123 [.ref a0, .int a1] H = rn 123 0 [.ref a0, .int a1, un, un, un, un] [] H := rfl
theorem x124_0 (l1 l2 : Value) (l0 : Nat) (H : HS) : rn 124 0 [.ref l0, l1, l2] [] H = rn 124 1 [.ref l0, l1, l2] [.ref l0] H := rn_nx rfl
theorem x124_1 (l0 l1 l2 : Value) (s0 : Nat) (H : HS) : rn 124 1 [l0, l1, l2] [.ref s0] H = gk 124 4 [l0, l1, l2] [] H (gfd H 0 0 s0) := (rn_ev ..).trans (ev_gk rfl)
theorem x124_4 (l0 l2 : Value) (l1 : Int32) (s0 : Nat) (H : HS) : rn 124 4 [l0, .int l1, l2] [.ref s0] H = rn 124 5 [l0, .int l1, l2] [.int l1, .ref s0] H := rn_nx rfl
theorem x124_5 (l0 l1 l2 : Value) (s0 : Int32) (s1 : Nat) (H : HS) (h : recv H s1 1 = true) : rn 124 5 [l0, l1, l2] [.int s0, .ref s1] H = bnd true 124 5 [l0, l1, l2] [] (rcal 58 [.ref s1, .int s0] H) := rn_cal (vcal h rfl)
theorem x124_8 (l0 l1 l2 : Value) (H : HS) : rn 124 8 [l0, l1, l2] [.null] H = rn 124 9 [l0, (kl l1), .null] [] H := rn_nx rfl
theorem x124_9 (l0 l1 : Value) (l2 : Nat) (H : HS) : rn 124 9 [l0, l1, .ref l2] [] H = rn 124 10 [l0, l1, .ref l2] [.ref l2] H := rn_nx rfl
theorem x124_9n (l0 l1 : Value) (H : HS) : rn 124 9 [l0, l1, .null] [] H = rn 124 10 [l0, l1, .null] [.null] H := rn_nx rfl
theorem x124_10 (l0 l1 l2 : Value) (H : HS) : rn 124 10 [l0, l1, l2] [.null] H = rn 124 13 [l0, l1, l2] [] H := rn_nx rfl
theorem x124_13 (l0 l1 l2 : Value) (H : HS) : rn 124 13 [l0, l1, l2] [] H = some (.inr 3, hsx H) := rn_end rfl
theorem x124_10a (l0 l1 l2 : Value) (s0 : Nat) (H : HS) : rn 124 10 [l0, l1, l2] [.ref s0] H = rn 124 23 [l0, l1, l2] [] H := rn_nx rfl
theorem x124_23 (l0 l1 : Value) (l2 : Nat) (H : HS) : rn 124 23 [l0, l1, .ref l2] [] H = rn 124 24 [l0, l1, .ref l2] [.ref l2] H := rn_nx rfl
theorem x124_23n (l0 l1 : Value) (H : HS) : rn 124 23 [l0, l1, .null] [] H = rn 124 24 [l0, l1, .null] [.null] H := rn_nx rfl
theorem x124_24 (l0 l1 l2 : Value) (H : HS) : rn 124 24 [l0, l1, l2] [.null] H = some (.inl (some (.null)), H) := rn_end rfl
theorem x124_24a (l0 l1 l2 : Value) (s0 : Nat) (H : HS) : rn 124 24 [l0, l1, l2] [.ref s0] H = some (.inl (some (.ref s0)), H) := rn_end rfl
theorem x124_8a (l0 l1 l2 : Value) (s0 : Nat) (H : HS) : rn 124 8 [l0, l1, l2] [.ref s0] H = rn 124 9 [l0, (kl l1), .ref s0] [] H := rn_nx rfl
theorem c124 (a0 : Nat) (a1 : Int32) (H : HS) : rcal 124 [.ref a0, .int a1] H = rn 124 0 [.ref a0, .int a1, un] [] H := rfl
theorem x125_0 (l1 l2 : Value) (l0 : Nat) (H : HS) : rn 125 0 [.ref l0, l1, l2] [] H = rn 125 1 [.ref l0, l1, l2] [.ref l0] H := rn_nx rfl
theorem x125_1 (l0 l2 : Value) (l1 : Int32) (s0 : Nat) (H : HS) : rn 125 1 [l0, .int l1, l2] [.ref s0] H = rn 125 2 [l0, .int l1, l2] [.int l1, .ref s0] H := rn_nx rfl
theorem x125_2 (l0 l1 l2 : Value) (s0 : Int32) (s1 : Nat) (H : HS) (h : recv H s1 0 = true) : rn 125 2 [l0, l1, l2] [.int s0, .ref s1] H = bnd true 125 2 [l0, l1, l2] [] (rcal 124 [.ref s1, .int s0] H) := rn_cal (vcal h rfl)
theorem x125_5 (l0 l1 l2 : Value) (s0 : Nat) (H : HS) : rn 125 5 [l0, l1, l2] [.ref s0] H = rn 125 6 [l0, (kl l1), .ref s0] [] H := rn_nx rfl
theorem x125_6 (l0 l1 : Value) (l2 : Nat) (H : HS) : rn 125 6 [l0, l1, .ref l2] [] H = rn 125 7 [l0, l1, .ref l2] [.ref l2] H := rn_nx rfl
theorem x125_7 (l0 l1 l2 : Value) (s0 : Nat) (H : HS) : rn 125 7 [l0, l1, l2] [.ref s0] H = gk 125 10 [l0, l1, l2] [] H (gfd H 2 0 s0) := (rn_ev ..).trans (ev_gk rfl)
theorem x125_10 (l0 l1 l2 : Value) (s0 : Nat) (H : HS) : rn 125 10 [l0, l1, l2] [.ref s0] H = rn 125 13 [l0, l1, l2] [.ref 4, .ref s0] H := rn_nx rfl
theorem x125_13 (l0 l1 l2 : Value) (s0 : Nat) (s1 : Nat) (H : HS) : rn 125 13 [l0, l1, l2] [.ref s0, .ref s1] H = qk 125 26 16 [l0, l1, l2] [] H (req H (.ref s1) (.ref s0)) := (rn_ev ..).trans (ev_qe rfl)
theorem x125_16 (l0 l1 l2 : Value) (H : HS) : rn 125 16 [l0, l1, l2] [] H = some (.inr 2, hsx H) := rn_end rfl
theorem x125_26 (l0 l1 : Value) (l2 : Nat) (H : HS) : rn 125 26 [l0, l1, .ref l2] [] H = rn 125 27 [l0, l1, .ref l2] [.ref l2] H := rn_nx rfl
theorem x125_27 (l0 l1 l2 : Value) (s0 : Nat) (H : HS) : rn 125 27 [l0, l1, l2] [.ref s0] H = some (.inl (some (.ref s0)), H) := rn_end rfl
theorem c125 (a0 : Nat) (a1 : Int32) (H : HS) : rcal 125 [.ref a0, .int a1] H = rn 125 0 [.ref a0, .int a1, un] [] H := rfl
theorem x126_0 (l0 : Nat) (H : HS) : rn 126 0 [.ref l0] [] H = rn 126 1 [.ref l0] [.ref l0] H := rn_nx rfl
theorem x126_1 (l0 : Value) (s0 : Nat) (H : HS) : rn 126 1 [l0] [.ref s0] H = gk 126 4 [l0] [] H (gfd H 0 0 s0) := (rn_ev ..).trans (ev_gk rfl)
theorem x126_4 (l0 : Value) (s0 : Nat) (H : HS) : rn 126 4 [l0] [.ref s0] H = gk 126 7 [l0] [] H (gfd H 1 7 s0) := (rn_ev ..).trans (ev_gk rfl)
theorem x126_7 (l0 : Value) (s0 : Int32) (H : HS) : rn 126 7 [l0] [.int s0] H = some (.inl (some (.int s0)), H) := rn_end rfl
theorem c126 (a0 : Nat) (H : HS) : rcal 126 [.ref a0] H = rn 126 0 [.ref a0] [] H := rfl
theorem x127_0 (l0 : Nat) (H : HS) : rn 127 0 [.ref l0] [] H = rn 127 1 [.ref l0] [.ref l0] H := rn_nx rfl
theorem x127_1 (l0 : Value) (s0 : Nat) (H : HS) : rn 127 1 [l0] [.ref s0] H = gk 127 4 [l0] [] H (gfd H 0 0 s0) := (rn_ev ..).trans (ev_gk rfl)
theorem x127_4 (l0 : Value) (s0 : Nat) (H : HS) : rn 127 4 [l0] [.ref s0] H = gk 127 7 [l0] [] H (gfd H 1 8 s0) := (rn_ev ..).trans (ev_gk rfl)
theorem x127_7 (l0 : Value) (s0 : Int32) (H : HS) : rn 127 7 [l0] [.int s0] H = some (.inl (some (.int s0)), H) := rn_end rfl
theorem c127 (a0 : Nat) (H : HS) : rcal 127 [.ref a0] H = rn 127 0 [.ref a0] [] H := rfl
theorem x128_0 (l0 : Nat) (H : HS) : rn 128 0 [.ref l0] [] H = rn 128 1 [.ref l0] [.ref l0] H := rn_nx rfl
theorem x128_1 (l0 : Value) (s0 : Nat) (H : HS) (h : recv H s0 0 = true) : rn 128 1 [l0] [.ref s0] H = bnd true 128 1 [l0] [] (rcal 134 [.ref s0] H) := rn_cal (vcal h rfl)
theorem x128_4 (l0 : Nat) (H : HS) : rn 128 4 [.ref l0] [] H = rn 128 5 [.ref l0] [.ref l0] H := rn_nx rfl
theorem x128_5 (l0 : Value) (s0 : Nat) (H : HS) : rn 128 5 [l0] [.ref s0] H = gk 128 8 [l0] [] H (gfd H 0 0 s0) := (rn_ev ..).trans (ev_gk rfl)
theorem x128_8 (l0 : Value) (s0 : Nat) (H : HS) : rn 128 8 [l0] [.ref s0] H = gk 128 11 [l0] [] H (gfd H 1 9 s0) := (rn_ev ..).trans (ev_gk rfl)
theorem x128_11 (l0 : Value) (s0 : Int32) (H : HS) : rn 128 11 [l0] [.int s0] H = some (.inl (some (.int s0)), H) := rn_end rfl
theorem c128 (a0 : Nat) (H : HS) : rcal 128 [.ref a0] H = rn 128 0 [.ref a0] [] H := rfl
theorem x129_0 (l0 : Nat) (H : HS) : rn 129 0 [.ref l0] [] H = rn 129 1 [.ref l0] [.ref l0] H := rn_nx rfl
theorem x129_1 (l0 : Value) (s0 : Nat) (H : HS) : rn 129 1 [l0] [.ref s0] H = gk 129 4 [l0] [] H (gfd H 0 0 s0) := (rn_ev ..).trans (ev_gk rfl)
theorem x129_4 (l0 : Value) (s0 : Nat) (H : HS) : rn 129 4 [l0] [.ref s0] H = gk 129 7 [l0] [] H (gfd H 1 10 s0) := (rn_ev ..).trans (ev_gk rfl)
theorem x129_7 (l0 : Value) (s0 : Int64) (H : HS) : rn 129 7 [l0] [.long s0] H = some (.inl (some (.long s0)), H) := rn_end rfl
theorem c129 (a0 : Nat) (H : HS) : rcal 129 [.ref a0] H = rn 129 0 [.ref a0] [] H := rfl
theorem x130_0 (l0 : Nat) (H : HS) : rn 130 0 [.ref l0] [] H = rn 130 1 [.ref l0] [.ref l0] H := rn_nx rfl
theorem x130_1 (l0 : Value) (s0 : Nat) (H : HS) (h : recv H s0 0 = true) : rn 130 1 [l0] [.ref s0] H = bnd true 130 1 [l0] [] (rcal 134 [.ref s0] H) := rn_cal (vcal h rfl)
theorem x130_4 (l0 : Nat) (H : HS) : rn 130 4 [.ref l0] [] H = rn 130 5 [.ref l0] [.ref l0] H := rn_nx rfl
theorem x130_5 (l0 : Value) (s0 : Nat) (H : HS) : rn 130 5 [l0] [.ref s0] H = gk 130 8 [l0] [] H (gfd H 0 0 s0) := (rn_ev ..).trans (ev_gk rfl)
theorem x130_8 (l0 : Value) (s0 : Nat) (H : HS) : rn 130 8 [l0] [.ref s0] H = gk 130 11 [l0] [] H (gfd H 1 11 s0) := (rn_ev ..).trans (ev_gk rfl)
theorem x130_11 (l0 : Value) (s0 : Int32) (H : HS) : rn 130 11 [l0] [.int s0] H = some (.inl (some (.int s0)), H) := rn_end rfl
theorem c130 (a0 : Nat) (H : HS) : rcal 130 [.ref a0] H = rn 130 0 [.ref a0] [] H := rfl
theorem x131_0 (l0 : Nat) (H : HS) : rn 131 0 [.ref l0] [] H = rn 131 1 [.ref l0] [.ref l0] H := rn_nx rfl
theorem x131_1 (l0 : Value) (s0 : Nat) (H : HS) : rn 131 1 [l0] [.ref s0] H = gk 131 4 [l0] [] H (gfd H 0 0 s0) := (rn_ev ..).trans (ev_gk rfl)
theorem x131_4 (l0 : Value) (s0 : Nat) (H : HS) : rn 131 4 [l0] [.ref s0] H = gk 131 7 [l0] [] H (gfd H 1 8 s0) := (rn_ev ..).trans (ev_gk rfl)
theorem x131_7 (l0 : Value) (s0 : Int32) (H : HS) : rn 131 7 [l0] [.int s0] H = if 0 < s0 then rn 131 21 [l0] [] H else rn 131 10 [l0] [] H := (rn_ev ..).trans (ev_bif rfl)
theorem x131_10 (l0 : Value) (H : HS) : rn 131 10 [l0] [] H = some (.inr 4, hsx H) := rn_end rfl
theorem x131_21 (l0 : Nat) (H : HS) : rn 131 21 [.ref l0] [] H = rn 131 22 [.ref l0] [.ref l0] H := rn_nx rfl
theorem x131_22 (l0 : Value) (s0 : Nat) (H : HS) : rn 131 22 [l0] [.ref s0] H = gk 131 25 [l0] [] H (gfd H 0 0 s0) := (rn_ev ..).trans (ev_gk rfl)
theorem x131_25 (l0 : Value) (s0 : Nat) (H : HS) : rn 131 25 [l0] [.ref s0] H = gk 131 28 [l0] [] H (gfd H 1 10 s0) := (rn_ev ..).trans (ev_gk rfl)
theorem x131_28 (l0 : Value) (s0 : Int64) (H : HS) : rn 131 28 [l0] [.long s0] H = rn 131 29 [l0] [.double (FP.l2d s0)] H := rn_nx rfl
theorem x131_29 (l0 : Nat) (s0 : UInt64) (H : HS) : rn 131 29 [.ref l0] [.double s0] H = rn 131 30 [.ref l0] [.ref l0, .double s0] H := rn_nx rfl
theorem x131_30 (l0 : Value) (s0 : Nat) (s1 : UInt64) (H : HS) : rn 131 30 [l0] [.ref s0, .double s1] H = gk 131 33 [l0] [.double s1] H (gfd H 0 0 s0) := (rn_ev ..).trans (ev_gk rfl)
theorem x131_33 (l0 : Value) (s0 : Nat) (s1 : UInt64) (H : HS) : rn 131 33 [l0] [.ref s0, .double s1] H = gk 131 36 [l0] [.double s1] H (gfd H 1 8 s0) := (rn_ev ..).trans (ev_gk rfl)
theorem x131_36 (l0 : Value) (s0 : Int32) (s1 : UInt64) (H : HS) : rn 131 36 [l0] [.int s0, .double s1] H = rn 131 37 [l0] [.double (FP.i2d s0), .double s1] H := rn_nx rfl
theorem x131_37 (l0 : Value) (s0 : UInt64) (s1 : UInt64) (H : HS) (h : FP.ddiv s1 s0 &&& 0x7fffffffffffffff ≤ 0x7ff0000000000000) : rn 131 37 [l0] [.double s0, .double s1] H = rn 131 38 [l0] [.double (FP.ddiv s1 s0)] H := (rn_ev ..).trans (ev_ifp h rfl)
theorem x131_38 (l0 : Value) (s0 : UInt64) (H : HS) : rn 131 38 [l0] [.double s0] H = some (.inl (some (.double s0)), H) := rn_end rfl
theorem c131 (a0 : Nat) (H : HS) : rcal 131 [.ref a0] H = rn 131 0 [.ref a0] [] H := rfl
theorem x132_0 (l0 : Nat) (H : HS) : rn 132 0 [.ref l0] [] H = rn 132 1 [.ref l0] [.ref l0] H := rn_nx rfl
theorem x132_1 (l0 : Value) (s0 : Nat) (H : HS) : rn 132 1 [l0] [.ref s0] H = gk 132 4 [l0] [] H (gfd H 0 0 s0) := (rn_ev ..).trans (ev_gk rfl)
theorem x132_4 (l0 : Value) (s0 : Nat) (H : HS) : rn 132 4 [l0] [.ref s0] H = gk 132 7 [l0] [] H (gfd H 1 8 s0) := (rn_ev ..).trans (ev_gk rfl)
theorem x132_7 (l0 : Value) (s0 : Int32) (H : HS) : rn 132 7 [l0] [.int s0] H = if 0 < s0 then rn 132 21 [l0] [] H else rn 132 10 [l0] [] H := (rn_ev ..).trans (ev_bif rfl)
theorem x132_10 (l0 : Value) (H : HS) : rn 132 10 [l0] [] H = some (.inr 4, hsx H) := rn_end rfl
theorem x132_21 (l0 : Nat) (H : HS) : rn 132 21 [.ref l0] [] H = rn 132 22 [.ref l0] [.ref l0] H := rn_nx rfl
theorem x132_22 (l0 : Value) (s0 : Nat) (H : HS) : rn 132 22 [l0] [.ref s0] H = gk 132 25 [l0] [] H (gfd H 0 0 s0) := (rn_ev ..).trans (ev_gk rfl)
theorem x132_25 (l0 : Value) (s0 : Nat) (H : HS) : rn 132 25 [l0] [.ref s0] H = gk 132 28 [l0] [] H (gfd H 1 12 s0) := (rn_ev ..).trans (ev_gk rfl)
theorem x132_28 (l0 : Value) (s0 : Int32) (H : HS) : rn 132 28 [l0] [.int s0] H = rn 132 29 [l0] [.float (FP.i2f s0)] H := rn_nx rfl
theorem x132_29 (l0 : Nat) (s0 : UInt32) (H : HS) : rn 132 29 [.ref l0] [.float s0] H = rn 132 30 [.ref l0] [.ref l0, .float s0] H := rn_nx rfl
theorem x132_30 (l0 : Value) (s0 : Nat) (s1 : UInt32) (H : HS) : rn 132 30 [l0] [.ref s0, .float s1] H = gk 132 33 [l0] [.float s1] H (gfd H 0 0 s0) := (rn_ev ..).trans (ev_gk rfl)
theorem x132_33 (l0 : Value) (s0 : Nat) (s1 : UInt32) (H : HS) : rn 132 33 [l0] [.ref s0, .float s1] H = gk 132 36 [l0] [.float s1] H (gfd H 1 8 s0) := (rn_ev ..).trans (ev_gk rfl)
theorem x132_36 (l0 : Value) (s0 : Int32) (s1 : UInt32) (H : HS) : rn 132 36 [l0] [.int s0, .float s1] H = rn 132 37 [l0] [.float (FP.i2f s0), .float s1] H := rn_nx rfl
theorem x132_37 (l0 : Value) (s0 : UInt32) (s1 : UInt32) (H : HS) (h : FP.fdiv s1 s0 &&& 0x7fffffff ≤ 0x7f800000) : rn 132 37 [l0] [.float s0, .float s1] H = rn 132 38 [l0] [.float (FP.fdiv s1 s0)] H := (rn_ev ..).trans (ev_ifp h rfl)
theorem x132_38 (l0 : Value) (s0 : UInt32) (H : HS) : rn 132 38 [l0] [.float s0] H = some (.inl (some (.float s0)), H) := rn_end rfl
theorem c132 (a0 : Nat) (H : HS) : rcal 132 [.ref a0] H = rn 132 0 [.ref a0] [] H := rfl
theorem x133_0 (l0 : Nat) (H : HS) : rn 133 0 [.ref l0] [] H = rn 133 1 [.ref l0] [.ref l0] H := rn_nx rfl
theorem x133_1 (l0 : Value) (s0 : Nat) (H : HS) : rn 133 1 [l0] [.ref s0] H = gk 133 4 [l0] [] H (gfd H 0 0 s0) := (rn_ev ..).trans (ev_gk rfl)
theorem x133_4 (l0 : Value) (s0 : Nat) (H : HS) (h : recv H s0 1 = true) : rn 133 4 [l0] [.ref s0] H = bnd true 133 4 [l0] [] (rcal 65 [.ref s0] H) := rn_cal (vcal h rfl)
theorem x133_7 (l0 : Value) (s0 : Int32) (H : HS) : rn 133 7 [l0] [.int s0] H = if s0 = 0 then rn 133 48 [l0] [] H else rn 133 10 [l0] [] H := (rn_ev ..).trans (ev_bif rfl)
theorem x133_10 (l0 : Nat) (H : HS) : rn 133 10 [.ref l0] [] H = rn 133 11 [.ref l0] [.ref l0] H := rn_nx rfl
theorem x133_11 (l0 : Value) (s0 : Nat) (H : HS) : rn 133 11 [l0] [.ref s0] H = gk 133 14 [l0] [] H (gfd H 0 0 s0) := (rn_ev ..).trans (ev_gk rfl)
theorem x133_14 (l0 : Value) (s0 : Nat) (H : HS) (h : recv H s0 1 = true) : rn 133 14 [l0] [.ref s0] H = bnd true 133 14 [l0] [] (rcal 66 [.ref s0] H) := rn_cal (vcal h rfl)
theorem x133_17 (l0 : Value) (s0 : Int32) (H : HS) : rn 133 17 [l0] [.int s0] H = if s0 = 0 then rn 133 48 [l0] [] H else rn 133 20 [l0] [] H := (rn_ev ..).trans (ev_bif rfl)
theorem x133_20 (l0 : Nat) (H : HS) : rn 133 20 [.ref l0] [] H = rn 133 21 [.ref l0] [.ref l0] H := rn_nx rfl
theorem x133_21 (l0 : Value) (s0 : Nat) (H : HS) : rn 133 21 [l0] [.ref s0] H = gk 133 24 [l0] [] H (gfd H 0 0 s0) := (rn_ev ..).trans (ev_gk rfl)
theorem x133_24 (l0 : Value) (s0 : Nat) (H : HS) (h : recv H s0 1 = true) : rn 133 24 [l0] [.ref s0] H = bnd true 133 24 [l0] [] (rcal 67 [.ref s0] H) := rn_cal (vcal h rfl)
theorem x133_27 (l0 : Value) (s0 : Int32) (H : HS) : rn 133 27 [l0] [.int s0] H = if s0 = 0 then rn 133 48 [l0] [] H else rn 133 30 [l0] [] H := (rn_ev ..).trans (ev_bif rfl)
theorem x133_30 (l0 : Nat) (H : HS) : rn 133 30 [.ref l0] [] H = rn 133 31 [.ref l0] [.ref l0] H := rn_nx rfl
theorem x133_31 (l0 : Value) (s0 : Nat) (H : HS) : rn 133 31 [l0] [.ref s0] H = gk 133 34 [l0] [] H (gfd H 0 2 s0) := (rn_ev ..).trans (ev_gk rfl)
theorem x133_34 (l0 : Nat) (s0 : Nat) (H : HS) : rn 133 34 [.ref l0] [.ref s0] H = rn 133 35 [.ref l0] [.ref l0, .ref s0] H := rn_nx rfl
theorem x133_35 (l0 : Value) (s0 : Nat) (s1 : Nat) (H : HS) : rn 133 35 [l0] [.ref s0, .ref s1] H = gk 133 38 [l0] [.ref s1] H (gfd H 0 0 s0) := (rn_ev ..).trans (ev_gk rfl)
theorem x133_38 (l0 : Value) (s0 : Nat) (s1 : Nat) (H : HS) (h : recv H s1 1 = true) : rn 133 38 [l0] [.ref s0, .ref s1] H = bnd true 133 38 [l0] [] (rcal 54 [.ref s1, .ref s0] H) := rn_cal (vcal h rfl)
theorem x133_41 (l0 : Value) (s0 : Int32) (H : HS) : rn 133 41 [l0] [.int s0] H = if s0 = 0 then rn 133 48 [l0] [] H else rn 133 44 [l0] [] H := (rn_ev ..).trans (ev_bif rfl)
theorem x133_44 (l0 : Value) (H : HS) : rn 133 44 [l0] [] H = rn 133 45 [l0] [.int 1] H := rn_nx rfl
theorem x133_45 (l0 : Value) (s0 : Int32) (H : HS) : rn 133 45 [l0] [.int s0] H = rn 133 49 [l0] [.int s0] H := rn_nx rfl
theorem x133_49 (l0 : Value) (s0 : Int32) (H : HS) : rn 133 49 [l0] [.int s0] H = if fitp 1 (.int s0) = true then some (.inl (some (.int s0)), H) else none := (rn_ev ..).trans (ev_ret rfl)
theorem x133_48 (l0 : Value) (H : HS) : rn 133 48 [l0] [] H = rn 133 49 [l0] [.int 0] H := rn_nx rfl
theorem c133 (a0 : Nat) (H : HS) : rcal 133 [.ref a0] H = rn 133 0 [.ref a0] [] H := rfl
theorem x134_0 (l0 : Nat) (H : HS) : rn 134 0 [.ref l0] [] H = rn 134 1 [.ref l0] [.ref l0] H := rn_nx rfl
theorem x134_1 (l0 : Value) (s0 : Nat) (H : HS) : rn 134 1 [l0] [.ref s0] H = gk 134 4 [l0] [] H (gfd H 0 0 s0) := (rn_ev ..).trans (ev_gk rfl)
theorem x134_4 (l0 : Value) (s0 : Nat) (H : HS) : rn 134 4 [l0] [.ref s0] H = gk 134 7 [l0] [] H (gfd H 1 8 s0) := (rn_ev ..).trans (ev_gk rfl)
theorem x134_7 (l0 : Value) (s0 : Int32) (H : HS) : rn 134 7 [l0] [.int s0] H = if 0 < s0 then rn 134 21 [l0] [] H else rn 134 10 [l0] [] H := (rn_ev ..).trans (ev_bif rfl)
theorem x134_10 (l0 : Value) (H : HS) : rn 134 10 [l0] [] H = some (.inr 3, hsx H) := rn_end rfl
theorem x134_21 (l0 : Value) (H : HS) : rn 134 21 [l0] [] H = some (.inl none, H) := rn_end rfl
theorem c134 (a0 : Nat) (H : HS) : rcal 134 [.ref a0] H = rn 134 0 [.ref a0] [] H := rfl
theorem x135_0 (l1 : Value) (l0 : Nat) (H : HS) : rn 135 0 [.ref l0, l1] [] H = rn 135 1 [.ref l0, l1] [.ref l0] H := rn_nx rfl
theorem x135_1 (l0 l1 : Value) (s0 : Nat) (H : HS) : rn 135 1 [l0, l1] [.ref s0] H = gk 135 4 [l0, l1] [] H (gfd H 0 4 s0) := (rn_ev ..).trans (ev_gk rfl)
theorem x135_4 (l0 l1 : Value) (s0 : Nat) (H : HS) (h : recv H s0 4 = true) : rn 135 4 [l0, l1] [.ref s0] H = bnd true 135 4 [l0, l1] [] (rcal 69 [.ref s0] H) := rn_cal (vcal h rfl)
theorem x135_7 (l0 l1 : Value) (s0 : Int32) (H : HS) : rn 135 7 [l0, l1] [.int s0] H = if s0 = 0 then rn 135 21 [l0, l1] [] H else rn 135 10 [l0, l1] [] H := (rn_ev ..).trans (ev_bif rfl)
theorem x135_10 (l0 l1 : Value) (H : HS) : rn 135 10 [l0, l1] [] H = some (.inr 2, hsx H) := rn_end rfl
theorem x135_21 (l1 : Value) (l0 : Nat) (H : HS) : rn 135 21 [.ref l0, l1] [] H = rn 135 22 [.ref l0, l1] [.ref l0] H := rn_nx rfl
theorem x135_22 (l0 l1 : Value) (s0 : Nat) (H : HS) : rn 135 22 [l0, l1] [.ref s0] H = gk 135 25 [l0, l1] [] H (gfd H 0 4 s0) := (rn_ev ..).trans (ev_gk rfl)
theorem x135_25 (l0 : Value) (l1 : Int32) (s0 : Nat) (H : HS) : rn 135 25 [l0, .int l1] [.ref s0] H = rn 135 26 [l0, .int l1] [.int l1, .ref s0] H := rn_nx rfl
theorem x135_26 (l0 l1 : Value) (s0 : Int32) (s1 : Nat) (H : HS) (h : recv H s1 4 = true) : rn 135 26 [l0, l1] [.int s0, .ref s1] H = bnd true 135 26 [l0, l1] [] (rcal 70 [.ref s1, .int s0] H) := rn_cal (vcal h rfl)
theorem x135_29 (l0 l1 : Value) (s0 : Int32) (H : HS) : rn 135 29 [l0, l1] [.int s0] H = some (.inl (some (.int s0)), H) := rn_end rfl
theorem c135 (a0 : Nat) (a1 : Int32) (H : HS) : rcal 135 [.ref a0, .int a1] H = rn 135 0 [.ref a0, .int a1] [] H := rfl
theorem x136_0 (l1 l2 l3 : Value) (l0 : Nat) (H : HS) : rn 136 0 [.ref l0, l1, l2, l3] [] H = rn 136 1 [.ref l0, l1, l2, l3] [.ref l0] H := rn_nx rfl
theorem x136_1 (l0 l1 l2 l3 : Value) (s0 : Nat) (H : HS) (h : recv H s0 0 = true) : rn 136 1 [l0, l1, l2, l3] [.ref s0] H = bnd true 136 1 [l0, l1, l2, l3] [] (rcal 139 [.ref s0] H) := rn_cal (vcal h rfl)
theorem x136_4 (l1 l2 l3 : Value) (l0 : Nat) (H : HS) : rn 136 4 [.ref l0, l1, l2, l3] [] H = rn 136 5 [.ref l0, l1, l2, l3] [.ref l0] H := rn_nx rfl
theorem x136_5 (l0 l1 l2 l3 : Value) (s0 : Nat) (H : HS) : rn 136 5 [l0, l1, l2, l3] [.ref s0] H = gk 136 8 [l0, l1, l2, l3] [] H (gfd H 0 3 s0) := (rn_ev ..).trans (ev_gk rfl)
theorem x136_8 (l1 l2 l3 : Value) (l0 : Nat) (s0 : Nat) (H : HS) : rn 136 8 [.ref l0, l1, l2, l3] [.ref s0] H = rn 136 9 [.ref l0, l1, l2, l3] [.ref l0, .ref s0] H := rn_nx rfl
theorem x136_9 (l0 l1 l2 l3 : Value) (s0 : Nat) (s1 : Nat) (H : HS) : rn 136 9 [l0, l1, l2, l3] [.ref s0, .ref s1] H = gk 136 12 [l0, l1, l2, l3] [.ref s1] H (gfd H 0 0 s0) := (rn_ev ..).trans (ev_gk rfl)
theorem x136_12 (l0 l1 l2 l3 : Value) (s0 : Nat) (s1 : Nat) (H : HS) (h : recv H s1 3 = true) : rn 136 12 [l0, l1, l2, l3] [.ref s0, .ref s1] H = bnd true 136 12 [l0, l1, l2, l3] [] (rcal 30 [.ref s1, .ref s0] H) := rn_cal (vcal h rfl)
theorem x136_15 (l1 l2 l3 : Value) (l0 : Nat) (H : HS) : rn 136 15 [.ref l0, l1, l2, l3] [] H = rn 136 16 [.ref l0, l1, l2, l3] [.ref l0] H := rn_nx rfl
theorem x136_16 (l0 l1 l2 l3 : Value) (s0 : Nat) (H : HS) : rn 136 16 [l0, l1, l2, l3] [.ref s0] H = gk 136 19 [l0, l1, l2, l3] [] H (gfd H 0 4 s0) := (rn_ev ..).trans (ev_gk rfl)
theorem x136_19 (l0 l1 l2 l3 : Value) (s0 : Nat) (H : HS) (h : recv H s0 4 = true) : rn 136 19 [l0, l1, l2, l3] [.ref s0] H = bnd true 136 19 [l0, l1, l2, l3] [] (rcal 72 [.ref s0] H) := rn_cal (vcal h rfl)
theorem x136_22 (l1 l2 l3 : Value) (l0 : Nat) (H : HS) : rn 136 22 [.ref l0, l1, l2, l3] [] H = rn 136 23 [.ref l0, l1, l2, l3] [.ref l0] H := rn_nx rfl
theorem x136_23 (l0 l1 l2 l3 : Value) (s0 : Nat) (H : HS) : rn 136 23 [l0, l1, l2, l3] [.ref s0] H = gk 136 26 [l0, l1, l2, l3] [] H (gfd H 0 4 s0) := (rn_ev ..).trans (ev_gk rfl)
theorem x136_26 (l0 l1 l2 l3 : Value) (s0 : Nat) (H : HS) : rn 136 26 [l0, l1, l2, l3] [.ref s0] H = gk 136 29 [l0, l1, l2, l3] [] H (gfd H 4 5 s0) := (rn_ev ..).trans (ev_gk rfl)
theorem x136_29 (l0 l1 l2 l3 : Value) (s0 : Nat) (H : HS) : rn 136 29 [l0, l1, l2, l3] [.ref s0] H = rn 136 30 [(kl l0), .ref s0, l2, l3] [] H := rn_nx rfl
theorem x136_30 (l0 l1 l2 l3 : Value) (H : HS) : rn 136 30 [l0, l1, l2, l3] [] H = rn 136 31 [l0, l1, l2, l3] [.int 0] H := rn_nx rfl
theorem x136_31 (l0 l1 l2 l3 : Value) (s0 : Int32) (H : HS) : rn 136 31 [l0, l1, l2, l3] [.int s0] H = rn 136 32 [l0, (kl l1), .int s0, l3] [] H := rn_nx rfl
theorem x136_32 (l0 l1 l2 l3 : Value) (H : HS) : rn 136 32 [l0, l1, l2, l3] [] H = rn 136 33 [l0, l1, l2, l3] [.int 0] H := rn_nx rfl
theorem x136_33 (l0 l1 l2 l3 : Value) (s0 : Int32) (H : HS) : rn 136 33 [l0, l1, l2, l3] [.int s0] H = rn 136 34 [l0, l1, (kl l2), .int s0] [] H := rn_nx rfl
theorem x136_34 (l0 l1 l3 : Value) (l2 : Int32) (H : HS) : rn 136 34 [l0, l1, .int l2, l3] [] H = rn 136 35 [l0, l1, .int l2, l3] [.int l2] H := rn_nx rfl
theorem x136_35 (l1 l2 l3 : Value) (l0 : Nat) (s0 : Int32) (H : HS) : rn 136 35 [.ref l0, l1, l2, l3] [.int s0] H = rn 136 36 [.ref l0, l1, l2, l3] [.ref l0, .int s0] H := rn_nx rfl
theorem x136_36 (l0 l1 l2 l3 : Value) (s0 : Nat) (s1 : Int32) (H : HS) : rn 136 36 [l0, l1, l2, l3] [.ref s0, .int s1] H = gk 136 39 [l0, l1, l2, l3] [.int s1] H (gfd H 0 4 s0) := (rn_ev ..).trans (ev_gk rfl)
theorem x136_39 (l0 l1 l2 l3 : Value) (s0 : Nat) (s1 : Int32) (H : HS) : rn 136 39 [l0, l1, l2, l3] [.ref s0, .int s1] H = gk 136 42 [l0, l1, l2, l3] [.int s1] H (gfd H 4 3 s0) := (rn_ev ..).trans (ev_gk rfl)
theorem x136_42 (l0 l1 l2 l3 : Value) (s0 : Int32) (s1 : Int32) (H : HS) : rn 136 42 [l0, l1, l2, l3] [.int s0, .int s1] H = if s1 < s0 then rn 136 45 [l0, l1, l2, l3] [] H else rn 136 86 [l0, l1, l2, l3] [] H := (rn_ev ..).trans (ev_bin rfl)
theorem x136_45 (l0 l1 l2 : Value) (l3 : Int32) (H : HS) : rn 136 45 [l0, l1, l2, .int l3] [] H = rn 136 46 [l0, l1, l2, .int l3] [.int l3] H := rn_nx rfl
theorem x136_46 (l0 l1 l2 l3 : Value) (s0 : Int32) (H : HS) : rn 136 46 [l0, l1, l2, l3] [.int s0] H = if s0 < 0 then rn 136 86 [l0, l1, l2, l3] [] H else rn 136 49 [l0, l1, l2, l3] [] H := (rn_ev ..).trans (ev_bif rfl)
theorem x136_49 (l1 l2 l3 : Value) (l0 : Nat) (H : HS) : rn 136 49 [.ref l0, l1, l2, l3] [] H = rn 136 50 [.ref l0, l1, l2, l3] [.ref l0] H := rn_nx rfl
theorem x136_50 (l0 l1 l2 l3 : Value) (s0 : Nat) (H : HS) : rn 136 50 [l0, l1, l2, l3] [.ref s0] H = gk 136 53 [l0, l1, l2, l3] [] H (gfd H 0 4 s0) := (rn_ev ..).trans (ev_gk rfl)
theorem x136_53 (l0 l1 l2 l3 : Value) (s0 : Nat) (H : HS) (h : recv H s0 4 = true) : rn 136 53 [l0, l1, l2, l3] [.ref s0] H = bnd true 136 53 [l0, l1, l2, l3] [] (rcal 74 [.ref s0] H) := rn_cal (vcal h rfl)
theorem x136_56 (l1 l2 l3 : Value) (l0 : Nat) (H : HS) : rn 136 56 [.ref l0, l1, l2, l3] [] H = rn 136 57 [.ref l0, l1, l2, l3] [.ref l0] H := rn_nx rfl
theorem x136_57 (l0 l1 l2 l3 : Value) (s0 : Nat) (H : HS) : rn 136 57 [l0, l1, l2, l3] [.ref s0] H = gk 136 60 [l0, l1, l2, l3] [] H (gfd H 0 0 s0) := (rn_ev ..).trans (ev_gk rfl)
theorem x136_60 (l1 l2 l3 : Value) (l0 : Nat) (s0 : Nat) (H : HS) : rn 136 60 [.ref l0, l1, l2, l3] [.ref s0] H = rn 136 61 [.ref l0, l1, l2, l3] [.ref l0, .ref s0] H := rn_nx rfl
theorem x136_61 (l0 l1 l2 l3 : Value) (s0 : Nat) (s1 : Nat) (H : HS) : rn 136 61 [l0, l1, l2, l3] [.ref s0, .ref s1] H = gk 136 64 [l0, l1, l2, l3] [.ref s1] H (gfd H 0 4 s0) := (rn_ev ..).trans (ev_gk rfl)
theorem x136_64 (l0 l1 l2 l3 : Value) (s0 : Nat) (s1 : Nat) (H : HS) : rn 136 64 [l0, l1, l2, l3] [.ref s0, .ref s1] H = gk 136 67 [l0, l1, l2, l3] [.ref s1] H (gfd H 4 4 s0) := (rn_ev ..).trans (ev_gk rfl)
theorem x136_67 (l0 l2 l3 : Value) (l1 : Nat) (s0 : Nat) (s1 : Nat) (H : HS) : rn 136 67 [l0, .ref l1, l2, l3] [.ref s0, .ref s1] H = rn 136 68 [l0, .ref l1, l2, l3] [.ref l1, .ref s0, .ref s1] H := rn_nx rfl
theorem x136_68 (l0 l1 l2 l3 : Value) (s0 : Nat) (s1 : Nat) (s2 : Nat) (H : HS) : rn 136 68 [l0, l1, l2, l3] [.ref s0, .ref s1, .ref s2] H = rn 136 69 [l0, l1, l2, l3] [.int 0, .ref s0, .ref s1, .ref s2] H := rn_nx rfl
theorem x136_69 (l0 l1 l2 l3 : Value) (s0 : Int32) (s1 : Nat) (s2 : Nat) (s3 : Nat) (H : HS) : rn 136 69 [l0, l1, l2, l3] [.int s0, .ref s1, .ref s2, .ref s3] H = gk 136 70 [l0, l1, l2, l3] [.ref s2, .ref s3] H (ald H 100 s1 s0) := (rn_ev ..).trans (ev_gk rfl)
theorem x136_70 (l0 l2 l3 : Value) (l1 : Nat) (s0 : Int32) (s1 : Nat) (s2 : Nat) (H : HS) : rn 136 70 [l0, .ref l1, l2, l3] [.int s0, .ref s1, .ref s2] H = rn 136 71 [l0, .ref l1, l2, l3] [.ref l1, .int s0, .ref s1, .ref s2] H := rn_nx rfl
theorem x136_71 (l0 l1 l2 l3 : Value) (s0 : Nat) (s1 : Int32) (s2 : Nat) (s3 : Nat) (H : HS) : rn 136 71 [l0, l1, l2, l3] [.ref s0, .int s1, .ref s2, .ref s3] H = rn 136 72 [l0, l1, l2, l3] [.int 1, .ref s0, .int s1, .ref s2, .ref s3] H := rn_nx rfl
theorem x136_72 (l0 l1 l2 l3 : Value) (s0 : Int32) (s1 : Nat) (s2 : Int32) (s3 : Nat) (s4 : Nat) (H : HS) : rn 136 72 [l0, l1, l2, l3] [.int s0, .ref s1, .int s2, .ref s3, .ref s4] H = gk 136 73 [l0, l1, l2, l3] [.int s2, .ref s3, .ref s4] H (ald H 100 s1 s0) := (rn_ev ..).trans (ev_gk rfl)
theorem x136_73 (l0 l2 l3 : Value) (l1 : Nat) (s0 : Int32) (s1 : Int32) (s2 : Nat) (s3 : Nat) (H : HS) : rn 136 73 [l0, .ref l1, l2, l3] [.int s0, .int s1, .ref s2, .ref s3] H = rn 136 74 [l0, .ref l1, l2, l3] [.ref l1, .int s0, .int s1, .ref s2, .ref s3] H := rn_nx rfl
theorem x136_74 (l0 l1 l2 l3 : Value) (s0 : Nat) (s1 : Int32) (s2 : Int32) (s3 : Nat) (s4 : Nat) (H : HS) : rn 136 74 [l0, l1, l2, l3] [.ref s0, .int s1, .int s2, .ref s3, .ref s4] H = rn 136 75 [l0, l1, l2, l3] [.int 2, .ref s0, .int s1, .int s2, .ref s3, .ref s4] H := rn_nx rfl
theorem x136_75 (l0 l1 l2 l3 : Value) (s0 : Int32) (s1 : Nat) (s2 : Int32) (s3 : Int32) (s4 : Nat) (s5 : Nat) (H : HS) : rn 136 75 [l0, l1, l2, l3] [.int s0, .ref s1, .int s2, .int s3, .ref s4, .ref s5] H = gk 136 76 [l0, l1, l2, l3] [.int s2, .int s3, .ref s4, .ref s5] H (ald H 100 s1 s0) := (rn_ev ..).trans (ev_gk rfl)
theorem x136_76 (l0 l1 l2 l3 : Value) (s0 : Int32) (s1 : Int32) (s2 : Int32) (s3 : Nat) (s4 : Nat) (H : HS) (h : recv H s4 1 = true) : rn 136 76 [l0, l1, l2, l3] [.int s0, .int s1, .int s2, .ref s3, .ref s4] H = bnd true 136 76 [l0, l1, l2, l3] [] (rcal 36 [.ref s4, .ref s3, .int s2, .int s1, .int s0] H) := rn_cal (vcal h rfl)
theorem x136_79 (l0 l1 l2 l3 : Value) (s0 : Int32) (H : HS) : rn 136 79 [l0, l1, l2, l3] [.int s0] H = rn 136 80 [l0, l1, (kl l2), .int s0] [] H := rn_nx rfl
theorem x136_80 (l0 l1 l3 : Value) (l2 : Int32) (H : HS) : rn 136 80 [l0, l1, .int l2, l3] [] H = rn 136 83 [l0, (kl l1), .int (l2 + 1), l3] [] H := rn_nx rfl
theorem x136_83 (l0 l1 l2 l3 : Value) (H : HS) : rn 136 83 [l0, l1, l2, l3] [] H = rn 136 34 [l0, l1, l2, l3] [] H := rn_nx rfl
theorem x136_86 (l1 l2 l3 : Value) (l0 : Nat) (H : HS) : rn 136 86 [.ref l0, l1, l2, l3] [] H = rn 136 87 [.ref l0, l1, l2, l3] [.ref l0] H := rn_nx rfl
theorem x136_87 (l0 l1 l2 l3 : Value) (s0 : Nat) (H : HS) : rn 136 87 [l0, l1, l2, l3] [.ref s0] H = gk 136 90 [l0, l1, l2, l3] [] H (gfd H 0 4 s0) := (rn_ev ..).trans (ev_gk rfl)
theorem x136_90 (l0 l1 l2 l3 : Value) (s0 : Nat) (H : HS) (h : recv H s0 4 = true) : rn 136 90 [l0, l1, l2, l3] [.ref s0] H = bnd true 136 90 [l0, l1, l2, l3] [] (rcal 71 [.ref s0] H) := rn_cal (vcal h rfl)
theorem x136_93 (l0 l1 l2 : Value) (l3 : Int32) (H : HS) : rn 136 93 [l0, l1, l2, .int l3] [] H = rn 136 94 [l0, l1, l2, .int l3] [.int l3] H := rn_nx rfl
theorem x136_94 (l0 l1 l2 l3 : Value) (s0 : Int32) (H : HS) : rn 136 94 [l0, l1, l2, l3] [.int s0] H = if s0 < 0 then rn 136 97 [l0, l1, l2, l3] [] H else rn 136 129 [l0, l1, l2, l3] [] H := (rn_ev ..).trans (ev_bin rfl)
theorem x136_97 (l1 l2 l3 : Value) (l0 : Nat) (H : HS) : rn 136 97 [.ref l0, l1, l2, l3] [] H = rn 136 98 [.ref l0, l1, l2, l3] [.ref l0] H := rn_nx rfl
theorem x136_98 (l0 l1 l3 : Value) (l2 : Int32) (s0 : Nat) (H : HS) : rn 136 98 [l0, l1, .int l2, l3] [.ref s0] H = rn 136 99 [l0, l1, .int l2, l3] [.int l2, .ref s0] H := rn_nx rfl
theorem x136_99 (l0 l1 l2 l3 : Value) (s0 : Int32) (s1 : Nat) (H : HS) : rn 136 99 [l0, l1, l2, l3] [.int s0, .ref s1] H = rn 136 100 [l0, l1, l2, l3] [.int 1, .int s0, .ref s1] H := rn_nx rfl
theorem x136_100 (l0 l1 l2 l3 : Value) (s0 : Int32) (s1 : Int32) (s2 : Nat) (H : HS) : rn 136 100 [l0, l1, l2, l3] [.int s0, .int s1, .ref s2] H = rn 136 101 [l0, l1, l2, l3] [.int (s1 - s0), .ref s2] H := rn_nx rfl
theorem x136_101 (l0 l1 l2 l3 : Value) (s0 : Int32) (s1 : Nat) (H : HS) : rn 136 101 [l0, l1, l2, l3] [.int s0, .ref s1] H = pk 136 104 [l0, l1, l2, l3] [] (pfd H true 0 8 s1 (.int s0)) := (rn_ev ..).trans (ev_pk rfl)
theorem x136_104 (l1 l2 l3 : Value) (l0 : Nat) (H : HS) : rn 136 104 [.ref l0, l1, l2, l3] [] H = rn 136 105 [.ref l0, l1, l2, l3] [.ref l0] H := rn_nx rfl
theorem x136_105 (l0 l1 l2 l3 : Value) (s0 : Nat) (H : HS) : rn 136 105 [l0, l1, l2, l3] [.ref s0] H = gk 136 108 [l0, l1, l2, l3] [] H (gfd H 0 0 s0) := (rn_ev ..).trans (ev_gk rfl)
theorem x136_108 (l1 l2 l3 : Value) (l0 : Nat) (s0 : Nat) (H : HS) : rn 136 108 [.ref l0, l1, l2, l3] [.ref s0] H = rn 136 109 [.ref l0, l1, l2, l3] [.ref l0, .ref s0] H := rn_nx rfl
theorem x136_109 (l0 l1 l2 l3 : Value) (s0 : Nat) (s1 : Nat) (H : HS) : rn 136 109 [l0, l1, l2, l3] [.ref s0, .ref s1] H = gk 136 112 [l0, l1, l2, l3] [.ref s1] H (gfd H 0 3 s0) := (rn_ev ..).trans (ev_gk rfl)
theorem x136_112 (l0 l1 l2 l3 : Value) (s0 : Nat) (s1 : Nat) (H : HS) (h : recv H s0 3 = true) : rn 136 112 [l0, l1, l2, l3] [.ref s0, .ref s1] H = bnd true 136 112 [l0, l1, l2, l3] [.ref s1] (rcal 31 [.ref s0] H) := rn_cal (vcal h rfl)
theorem x136_115 (l0 l1 l2 l3 : Value) (s0 : Nat) (s1 : Nat) (H : HS) (h : recv H s1 1 = true) : rn 136 115 [l0, l1, l2, l3] [.ref s0, .ref s1] H = bnd true 136 115 [l0, l1, l2, l3] [] (rcal 35 [.ref s1, .ref s0] H) := rn_cal (vcal h rfl)
theorem x136_118 (l0 l1 l2 l3 : Value) (H : HS) : rn 136 118 [l0, l1, l2, l3] [] H = some (.inr 5, hsx H) := rn_end rfl
theorem x136_129 (l1 l2 l3 : Value) (l0 : Nat) (H : HS) : rn 136 129 [.ref l0, l1, l2, l3] [] H = rn 136 130 [.ref l0, l1, l2, l3] [.ref l0] H := rn_nx rfl
theorem x136_130 (l0 l1 l2 l3 : Value) (s0 : Nat) (H : HS) : rn 136 130 [l0, l1, l2, l3] [.ref s0] H = gk 136 133 [l0, l1, l2, l3] [] H (gfd H 0 3 s0) := (rn_ev ..).trans (ev_gk rfl)
theorem x136_133 (l0 l1 l2 l3 : Value) (s0 : Nat) (H : HS) (h : recv H s0 3 = true) : rn 136 133 [l0, l1, l2, l3] [.ref s0] H = bnd true 136 133 [l0, l1, l2, l3] [] (rcal 32 [.ref s0] H) := rn_cal (vcal h rfl)
theorem x136_136 (l0 l1 l3 : Value) (l2 : Int32) (H : HS) : rn 136 136 [l0, l1, .int l2, l3] [] H = rn 136 137 [l0, l1, .int l2, l3] [.int l2] H := rn_nx rfl
theorem x136_137 (l0 l1 l2 l3 : Value) (s0 : Int32) (H : HS) : rn 136 137 [l0, l1, l2, l3] [.int s0] H = some (.inl (some (.int s0)), H) := rn_end rfl
theorem c136 (a0 : Nat) (H : HS) : rcal 136 [.ref a0] H = rn 136 0 [.ref a0, un, un, un] [] H := rfl
theorem x137_0 (l0 : Nat) (H : HS) : rn 137 0 [.ref l0] [] H = rn 137 1 [.ref l0] [.ref l0] H := rn_nx rfl
theorem x137_1 (l0 : Value) (s0 : Nat) (H : HS) : rn 137 1 [l0] [.ref s0] H = gk 137 4 [l0] [] H (gfd H 0 7 s0) := (rn_ev ..).trans (ev_gk rfl)
theorem x137_4 (l0 : Value) (s0 : Int32) (H : HS) : rn 137 4 [l0] [.int s0] H = rn 137 5 [l0] [.int (-1), .int s0] H := rn_nx rfl
theorem x137_5 (l0 : Value) (s0 : Int32) (s1 : Int32) (H : HS) : rn 137 5 [l0] [.int s0, .int s1] H = if s1 = s0 then rn 137 8 [l0] [] H else rn 137 19 [l0] [] H := (rn_ev ..).trans (ev_bin rfl)
theorem x137_8 (l0 : Value) (H : HS) : rn 137 8 [l0] [] H = some (.inr 3, hsx H) := rn_end rfl
theorem x137_19 (l0 : Nat) (H : HS) : rn 137 19 [.ref l0] [] H = rn 137 20 [.ref l0] [.ref l0] H := rn_nx rfl
theorem x137_20 (l0 : Value) (s0 : Nat) (H : HS) : rn 137 20 [l0] [.ref s0] H = gk 137 23 [l0] [] H (gfd H 0 7 s0) := (rn_ev ..).trans (ev_gk rfl)
theorem x137_23 (l0 : Value) (s0 : Int32) (H : HS) : rn 137 23 [l0] [.int s0] H = some (.inl (some (.int s0)), H) := rn_end rfl
theorem c137 (a0 : Nat) (H : HS) : rcal 137 [.ref a0] H = rn 137 0 [.ref a0] [] H := rfl
theorem x138_0 (l0 : Nat) (H : HS) : rn 138 0 [.ref l0] [] H = rn 138 1 [.ref l0] [.ref l0] H := rn_nx rfl
theorem x138_1 (l0 : Value) (s0 : Nat) (H : HS) : rn 138 1 [l0] [.ref s0] H = gk 138 4 [l0] [] H (gfd H 0 8 s0) := (rn_ev ..).trans (ev_gk rfl)
theorem x138_4 (l0 : Value) (s0 : Int32) (H : HS) : rn 138 4 [l0] [.int s0] H = rn 138 5 [l0] [.int (-1), .int s0] H := rn_nx rfl
theorem x138_5 (l0 : Value) (s0 : Int32) (s1 : Int32) (H : HS) : rn 138 5 [l0] [.int s0, .int s1] H = if s1 = s0 then rn 138 8 [l0] [] H else rn 138 19 [l0] [] H := (rn_ev ..).trans (ev_bin rfl)
theorem x138_8 (l0 : Value) (H : HS) : rn 138 8 [l0] [] H = some (.inr 3, hsx H) := rn_end rfl
theorem x138_19 (l0 : Nat) (H : HS) : rn 138 19 [.ref l0] [] H = rn 138 20 [.ref l0] [.ref l0] H := rn_nx rfl
theorem x138_20 (l0 : Value) (s0 : Nat) (H : HS) : rn 138 20 [l0] [.ref s0] H = gk 138 23 [l0] [] H (gfd H 0 8 s0) := (rn_ev ..).trans (ev_gk rfl)
theorem x138_23 (l0 : Value) (s0 : Int32) (H : HS) : rn 138 23 [l0] [.int s0] H = some (.inl (some (.int s0)), H) := rn_end rfl
theorem c138 (a0 : Nat) (H : HS) : rcal 138 [.ref a0] H = rn 138 0 [.ref a0] [] H := rfl
theorem x139_0 (l1 : Value) (l0 : Nat) (H : HS) : rn 139 0 [.ref l0, l1] [] H = rn 139 1 [.ref l0, l1] [.ref l0] H := rn_nx rfl
theorem x139_1 (l0 l1 : Value) (s0 : Nat) (H : HS) : rn 139 1 [l0, l1] [.ref s0] H = gk 139 4 [l0, l1] [] H (gfd H 0 4 s0) := (rn_ev ..).trans (ev_gk rfl)
theorem x139_4 (l0 l1 : Value) (s0 : Nat) (H : HS) (h : recv H s0 4 = true) : rn 139 4 [l0, l1] [.ref s0] H = bnd true 139 4 [l0, l1] [] (rcal 73 [.ref s0] H) := rn_cal (vcal h rfl)
theorem x139_7 (l0 l1 : Value) (s0 : Int32) (H : HS) : rn 139 7 [l0, l1] [.int s0] H = rn 139 8 [(kl l0), .int s0] [] H := rn_nx rfl
theorem x139_8 (l0 : Value) (l1 : Int32) (H : HS) : rn 139 8 [l0, .int l1] [] H = rn 139 9 [l0, .int l1] [.int l1] H := rn_nx rfl
theorem x139_9 (l0 l1 : Value) (s0 : Int32) (H : HS) : rn 139 9 [l0, l1] [.int s0] H = rn 139 10 [l0, l1] [.int (-1), .int s0] H := rn_nx rfl
theorem x139_10 (l0 l1 : Value) (s0 : Int32) (s1 : Int32) (H : HS) : rn 139 10 [l0, l1] [.int s0, .int s1] H = if s1 = s0 then rn 139 36 [l0, l1] [] H else rn 139 13 [l0, l1] [] H := (rn_ev ..).trans (ev_bif rfl)
theorem x139_13 (l1 : Value) (l0 : Nat) (H : HS) : rn 139 13 [.ref l0, l1] [] H = rn 139 14 [.ref l0, l1] [.ref l0] H := rn_nx rfl
theorem x139_14 (l0 : Value) (l1 : Int32) (s0 : Nat) (H : HS) : rn 139 14 [l0, .int l1] [.ref s0] H = rn 139 15 [l0, .int l1] [.int l1, .ref s0] H := rn_nx rfl
theorem x139_15 (l0 l1 : Value) (s0 : Int32) (s1 : Nat) (H : HS) : rn 139 15 [l0, l1] [.int s0, .ref s1] H = pk 139 18 [l0, l1] [] (pfd H true 0 7 s1 (.int s0)) := (rn_ev ..).trans (ev_pk rfl)
theorem x139_18 (l1 : Value) (l0 : Nat) (H : HS) : rn 139 18 [.ref l0, l1] [] H = rn 139 19 [.ref l0, l1] [.ref l0] H := rn_nx rfl
theorem x139_19 (l0 l1 : Value) (s0 : Nat) (H : HS) : rn 139 19 [l0, l1] [.ref s0] H = gk 139 22 [l0, l1] [] H (gfd H 0 4 s0) := (rn_ev ..).trans (ev_gk rfl)
theorem x139_22 (l0 l1 : Value) (s0 : Nat) (H : HS) (h : recv H s0 4 = true) : rn 139 22 [l0, l1] [.ref s0] H = bnd true 139 22 [l0, l1] [] (rcal 71 [.ref s0] H) := rn_cal (vcal h rfl)
theorem x139_25 (l0 l1 : Value) (H : HS) : rn 139 25 [l0, l1] [] H = some (.inr 1, hsx H) := rn_end rfl
theorem x139_36 (l0 l1 : Value) (H : HS) : rn 139 36 [l0, l1] [] H = some (.inl none, H) := rn_end rfl
theorem c139 (a0 : Nat) (H : HS) : rcal 139 [.ref a0] H = rn 139 0 [.ref a0, un] [] H := rfl
theorem x140_0 (l1 : Value) (l0 : Nat) (H : HS) : rn 140 0 [.ref l0, l1] [] H = rn 140 1 [.ref l0, l1] [.ref l0] H := rn_nx rfl
theorem x140_1 (l0 l1 : Value) (s0 : Nat) (H : HS) : rn 140 1 [l0, l1] [.ref s0] H = gk 140 4 [l0, l1] [] H (gfd H 0 5 s0) := (rn_ev ..).trans (ev_gk rfl)
theorem x140_4 (l0 l1 : Value) (s0 : Nat) (H : HS) : rn 140 4 [l0, l1] [.ref s0] H = rn 140 5 [l0, l1] [.int 0, .ref s0] H := rn_nx rfl
theorem x140_5 (l0 l1 : Value) (s0 : Int32) (s1 : Nat) (H : HS) (h : recv H s1 6 = true) : rn 140 5 [l0, l1] [.int s0, .ref s1] H = bnd true 140 5 [l0, l1] [] (rcal 22 [.ref s1, .int s0] H) := rn_cal (vcal h rfl)
theorem x140_8 (l0 l1 : Value) (H : HS) : rn 140 8 [l0, l1] [] H = rn 140 9 [l0, l1] [.int 0] H := rn_nx rfl
theorem x140_9 (l0 l1 : Value) (s0 : Int32) (H : HS) : rn 140 9 [l0, l1] [.int s0] H = rn 140 10 [(kl l0), .int s0] [] H := rn_nx rfl
theorem x140_10 (l0 : Value) (l1 : Int32) (H : HS) : rn 140 10 [l0, .int l1] [] H = rn 140 11 [l0, .int l1] [.int l1] H := rn_nx rfl
theorem x140_11 (l1 : Value) (l0 : Nat) (s0 : Int32) (H : HS) : rn 140 11 [.ref l0, l1] [.int s0] H = rn 140 12 [.ref l0, l1] [.ref l0, .int s0] H := rn_nx rfl
theorem x140_12 (l0 l1 : Value) (s0 : Nat) (s1 : Int32) (H : HS) : rn 140 12 [l0, l1] [.ref s0, .int s1] H = gk 140 15 [l0, l1] [.int s1] H (gfd H 0 0 s0) := (rn_ev ..).trans (ev_gk rfl)
theorem x140_15 (l0 l1 : Value) (s0 : Nat) (s1 : Int32) (H : HS) : rn 140 15 [l0, l1] [.ref s0, .int s1] H = gk 140 18 [l0, l1] [.int s1] H (gfd H 1 0 s0) := (rn_ev ..).trans (ev_gk rfl)
theorem x140_18 (l0 l1 : Value) (s0 : Int32) (s1 : Int32) (H : HS) : rn 140 18 [l0, l1] [.int s0, .int s1] H = if s1 < s0 then rn 140 21 [l0, l1] [] H else rn 140 43 [l0, l1] [] H := (rn_ev ..).trans (ev_bin rfl)
theorem x140_21 (l0 : Value) (l1 : Int32) (H : HS) : rn 140 21 [l0, .int l1] [] H = rn 140 22 [l0, .int l1] [.int l1] H := rn_nx rfl
theorem x140_22 (l0 l1 : Value) (s0 : Int32) (H : HS) : rn 140 22 [l0, l1] [.int s0] H = if 0 < s0 then rn 140 25 [l0, l1] [] H else rn 140 32 [l0, l1] [] H := (rn_ev ..).trans (ev_bin rfl)
theorem x140_25 (l1 : Value) (l0 : Nat) (H : HS) : rn 140 25 [.ref l0, l1] [] H = rn 140 26 [.ref l0, l1] [.ref l0] H := rn_nx rfl
theorem x140_26 (l0 : Value) (l1 : Int32) (s0 : Nat) (H : HS) : rn 140 26 [l0, .int l1] [.ref s0] H = rn 140 27 [l0, .int l1] [.int l1, .ref s0] H := rn_nx rfl
theorem x140_27 (l0 l1 : Value) (s0 : Int32) (s1 : Nat) (H : HS) : rn 140 27 [l0, l1] [.int s0, .ref s1] H = rn 140 28 [l0, l1] [.int 1, .int s0, .ref s1] H := rn_nx rfl
theorem x140_28 (l0 l1 : Value) (s0 : Int32) (s1 : Int32) (s2 : Nat) (H : HS) : rn 140 28 [l0, l1] [.int s0, .int s1, .ref s2] H = rn 140 29 [l0, l1] [.int (s1 - s0), .ref s2] H := rn_nx rfl
theorem x140_29 (l0 l1 : Value) (s0 : Int32) (s1 : Nat) (H : HS) (h : recv H s1 0 = true) : rn 140 29 [l0, l1] [.int s0, .ref s1] H = bnd true 140 29 [l0, l1] [] (rcal 144 [.ref s1, .int s0] H) := rn_cal (vcal h rfl)
theorem x140_32 (l1 : Value) (l0 : Nat) (H : HS) : rn 140 32 [.ref l0, l1] [] H = rn 140 33 [.ref l0, l1] [.ref l0] H := rn_nx rfl
theorem x140_33 (l0 : Value) (l1 : Int32) (s0 : Nat) (H : HS) : rn 140 33 [l0, .int l1] [.ref s0] H = rn 140 34 [l0, .int l1] [.int l1, .ref s0] H := rn_nx rfl
theorem x140_34 (l0 l1 : Value) (s0 : Int32) (s1 : Nat) (H : HS) (h : recv H s1 0 = true) : rn 140 34 [l0, l1] [.int s0, .ref s1] H = bnd true 140 34 [l0, l1] [] (rcal 143 [.ref s1, .int s0] H) := rn_cal (vcal h rfl)
theorem x140_37 (l0 : Value) (l1 : Int32) (H : HS) : rn 140 37 [l0, .int l1] [] H = rn 140 40 [(kl l0), .int (l1 + 1)] [] H := rn_nx rfl
theorem x140_40 (l0 l1 : Value) (H : HS) : rn 140 40 [l0, l1] [] H = rn 140 10 [l0, l1] [] H := rn_nx rfl
theorem x140_43 (l1 : Value) (l0 : Nat) (H : HS) : rn 140 43 [.ref l0, l1] [] H = rn 140 44 [.ref l0, l1] [.ref l0] H := rn_nx rfl
theorem x140_44 (l0 l1 : Value) (s0 : Nat) (H : HS) : rn 140 44 [l0, l1] [.ref s0] H = gk 140 47 [l0, l1] [] H (gfd H 0 5 s0) := (rn_ev ..).trans (ev_gk rfl)
theorem x140_47 (l0 l1 : Value) (s0 : Nat) (H : HS) (h : recv H s0 6 = true) : rn 140 47 [l0, l1] [.ref s0] H = bnd true 140 47 [l0, l1] [] (rcal 23 [.ref s0] H) := rn_cal (vcal h rfl)
theorem x140_50 (l0 l1 : Value) (s0 : Int32) (H : HS) : rn 140 50 [l0, l1] [.int s0] H = some (.inl (some (.int s0)), H) := rn_end rfl
theorem c140 (a0 : Nat) (H : HS) : rcal 140 [.ref a0] H = rn 140 0 [.ref a0, un] [] H := rfl
theorem x141_0 (l1 l2 : Value) (l0 : Nat) (H : HS) : rn 141 0 [.ref l0, l1, l2] [] H = rn 141 1 [.ref l0, l1, l2] [.ref l0] H := rn_nx rfl
theorem x141_1 (l0 l2 : Value) (l1 : Int32) (s0 : Nat) (H : HS) : rn 141 1 [l0, .int l1, l2] [.ref s0] H = rn 141 2 [l0, .int l1, l2] [.int l1, .ref s0] H := rn_nx rfl
theorem x141_2 (l0 l1 l2 : Value) (s0 : Int32) (s1 : Nat) (H : HS) (h : recv H s1 0 = true) : rn 141 2 [l0, l1, l2] [.int s0, .ref s1] H = bnd true 141 2 [l0, l1, l2] [] (rcal 124 [.ref s1, .int s0] H) := rn_cal (vcal h rfl)
theorem x141_5 (l0 l1 l2 : Value) (s0 : Nat) (H : HS) : rn 141 5 [l0, l1, l2] [.ref s0] H = rn 141 6 [l0, (kl l1), .ref s0] [] H := rn_nx rfl
theorem x141_6 (l1 l2 : Value) (l0 : Nat) (H : HS) : rn 141 6 [.ref l0, l1, l2] [] H = rn 141 7 [.ref l0, l1, l2] [.ref l0] H := rn_nx rfl
theorem x141_7 (l0 l1 l2 : Value) (s0 : Nat) (H : HS) : rn 141 7 [l0, l1, l2] [.ref s0] H = gk 141 10 [l0, l1, l2] [] H (gfd H 0 5 s0) := (rn_ev ..).trans (ev_gk rfl)
theorem x141_10 (l0 l1 l2 : Value) (s0 : Nat) (H : HS) : rn 141 10 [l0, l1, l2] [.ref s0] H = rn 141 11 [l0, l1, l2] [.int 0, .ref s0] H := rn_nx rfl
theorem x141_11 (l0 l1 l2 : Value) (s0 : Int32) (s1 : Nat) (H : HS) (h : recv H s1 6 = true) : rn 141 11 [l0, l1, l2] [.int s0, .ref s1] H = bnd true 141 11 [l0, l1, l2] [] (rcal 22 [.ref s1, .int s0] H) := rn_cal (vcal h rfl)
theorem x141_14 (l1 l2 : Value) (l0 : Nat) (H : HS) : rn 141 14 [.ref l0, l1, l2] [] H = rn 141 15 [.ref l0, l1, l2] [.ref l0] H := rn_nx rfl
theorem x141_15 (l0 l1 l2 : Value) (s0 : Nat) (H : HS) : rn 141 15 [l0, l1, l2] [.ref s0] H = gk 141 18 [l0, l1, l2] [] H (gfd H 0 5 s0) := (rn_ev ..).trans (ev_gk rfl)
theorem x141_18 (l0 l1 : Value) (l2 : Nat) (s0 : Nat) (H : HS) : rn 141 18 [l0, l1, .ref l2] [.ref s0] H = rn 141 19 [l0, l1, .ref l2] [.ref l2, .ref s0] H := rn_nx rfl
theorem x141_19 (l0 l1 l2 : Value) (s0 : Nat) (s1 : Nat) (H : HS) : rn 141 19 [l0, l1, l2] [.ref s0, .ref s1] H = gk 141 22 [l0, l1, l2] [.ref s1] H (gfd H 2 1 s0) := (rn_ev ..).trans (ev_gk rfl)
theorem x141_22 (l0 l1 l2 : Value) (s0 : Int32) (s1 : Nat) (H : HS) (h : recv H s1 6 = true) : rn 141 22 [l0, l1, l2] [.int s0, .ref s1] H = bnd true 141 22 [l0, l1, l2] [] (rcal 20 [.ref s1, .int s0] H) := rn_cal (vcal h rfl)
theorem x141_25 (l0 l1 l2 : Value) (s0 : Nat) (H : HS) : rn 141 25 [l0, l1, l2] [.ref s0] H = rn 141 27 [l0, l1, l2] [.int 58, .ref s0] H := rn_nx rfl
theorem x141_27 (l0 l1 l2 : Value) (s0 : Int32) (s1 : Nat) (H : HS) (h : recv H s1 6 = true) : rn 141 27 [l0, l1, l2] [.int s0, .ref s1] H = bnd true 141 27 [l0, l1, l2] [] (rcal 19 [.ref s1, .int s0] H) := rn_cal (vcal h rfl)
theorem x141_30 (l0 l1 : Value) (l2 : Nat) (s0 : Nat) (H : HS) : rn 141 30 [l0, l1, .ref l2] [.ref s0] H = rn 141 31 [l0, l1, .ref l2] [.ref l2, .ref s0] H := rn_nx rfl
theorem x141_31 (l0 l1 l2 : Value) (s0 : Nat) (s1 : Nat) (H : HS) : rn 141 31 [l0, l1, l2] [.ref s0, .ref s1] H = gk 141 34 [l0, l1, l2] [.ref s1] H (gfd H 2 2 s0) := (rn_ev ..).trans (ev_gk rfl)
theorem x141_34 (l0 l1 l2 : Value) (s0 : Int32) (s1 : Nat) (H : HS) (h : recv H s1 6 = true) : rn 141 34 [l0, l1, l2] [.int s0, .ref s1] H = bnd true 141 34 [l0, l1, l2] [] (rcal 20 [.ref s1, .int s0] H) := rn_cal (vcal h rfl)
theorem x141_37 (l0 l1 l2 : Value) (s0 : Nat) (H : HS) : rn 141 37 [l0, l1, l2] [.ref s0] H = rn 141 38 [l0, l1, l2] [] H := rn_nx rfl
theorem x141_38 (l1 l2 : Value) (l0 : Nat) (H : HS) : rn 141 38 [.ref l0, l1, l2] [] H = rn 141 39 [.ref l0, l1, l2] [.ref l0] H := rn_nx rfl
theorem x141_39 (l0 l1 l2 : Value) (s0 : Nat) (H : HS) : rn 141 39 [l0, l1, l2] [.ref s0] H = gk 141 42 [l0, l1, l2] [] H (gfd H 0 5 s0) := (rn_ev ..).trans (ev_gk rfl)
theorem x141_42 (l0 l1 l2 : Value) (s0 : Nat) (H : HS) : rn 141 42 [l0, l1, l2] [.ref s0] H = rn 141 44 [l0, l1, l2] [.int 62, .ref s0] H := rn_nx rfl
theorem x141_44 (l0 l1 l2 : Value) (s0 : Int32) (s1 : Nat) (H : HS) (h : recv H s1 6 = true) : rn 141 44 [l0, l1, l2] [.int s0, .ref s1] H = bnd true 141 44 [l0, l1, l2] [] (rcal 19 [.ref s1, .int s0] H) := rn_cal (vcal h rfl)
theorem x141_47 (l0 l1 : Value) (l2 : Nat) (s0 : Nat) (H : HS) : rn 141 47 [l0, l1, .ref l2] [.ref s0] H = rn 141 48 [l0, l1, .ref l2] [.ref l2, .ref s0] H := rn_nx rfl
theorem x141_48 (l0 l1 l2 : Value) (s0 : Nat) (s1 : Nat) (H : HS) : rn 141 48 [l0, l1, l2] [.ref s0, .ref s1] H = gk 141 51 [l0, l1, l2] [.ref s1] H (gfd H 2 3 s0) := (rn_ev ..).trans (ev_gk rfl)
theorem x141_51 (l0 l1 l2 : Value) (s0 : Int32) (s1 : Nat) (H : HS) (h : recv H s1 6 = true) : rn 141 51 [l0, l1, l2] [.int s0, .ref s1] H = bnd true 141 51 [l0, l1, l2] [] (rcal 20 [.ref s1, .int s0] H) := rn_cal (vcal h rfl)
theorem x141_54 (l0 l1 l2 : Value) (s0 : Nat) (H : HS) : rn 141 54 [l0, l1, l2] [.ref s0] H = rn 141 55 [l0, l1, l2] [] H := rn_nx rfl
theorem x141_55 (l1 l2 : Value) (l0 : Nat) (H : HS) : rn 141 55 [.ref l0, l1, l2] [] H = rn 141 56 [.ref l0, l1, l2] [.ref l0] H := rn_nx rfl
theorem x141_56 (l0 l1 l2 : Value) (s0 : Nat) (H : HS) : rn 141 56 [l0, l1, l2] [.ref s0] H = gk 141 59 [l0, l1, l2] [] H (gfd H 0 5 s0) := (rn_ev ..).trans (ev_gk rfl)
theorem x141_59 (l0 l1 l2 : Value) (s0 : Nat) (H : HS) : rn 141 59 [l0, l1, l2] [.ref s0] H = rn 141 61 [l0, l1, l2] [.int 64, .ref s0] H := rn_nx rfl
theorem x141_61 (l0 l1 l2 : Value) (s0 : Int32) (s1 : Nat) (H : HS) (h : recv H s1 6 = true) : rn 141 61 [l0, l1, l2] [.int s0, .ref s1] H = bnd true 141 61 [l0, l1, l2] [] (rcal 19 [.ref s1, .int s0] H) := rn_cal (vcal h rfl)
theorem x141_64 (l0 l1 : Value) (l2 : Nat) (s0 : Nat) (H : HS) : rn 141 64 [l0, l1, .ref l2] [.ref s0] H = rn 141 65 [l0, l1, .ref l2] [.ref l2, .ref s0] H := rn_nx rfl
theorem x141_65 (l0 l1 l2 : Value) (s0 : Nat) (s1 : Nat) (H : HS) : rn 141 65 [l0, l1, l2] [.ref s0, .ref s1] H = gk 141 68 [l0, l1, l2] [.ref s1] H (gfd H 2 4 s0) := (rn_ev ..).trans (ev_gk rfl)
theorem x141_68 (l0 l1 l2 : Value) (s0 : Int32) (s1 : Nat) (H : HS) (h : recv H s1 6 = true) : rn 141 68 [l0, l1, l2] [.int s0, .ref s1] H = bnd true 141 68 [l0, l1, l2] [] (rcal 20 [.ref s1, .int s0] H) := rn_cal (vcal h rfl)
theorem x141_71 (l0 l1 l2 : Value) (s0 : Nat) (H : HS) : rn 141 71 [l0, l1, l2] [.ref s0] H = rn 141 72 [l0, l1, l2] [] H := rn_nx rfl
theorem x141_72 (l0 l1 : Value) (l2 : Nat) (H : HS) : rn 141 72 [l0, l1, .ref l2] [] H = rn 141 73 [l0, l1, .ref l2] [.ref l2] H := rn_nx rfl
theorem x141_73 (l0 l1 l2 : Value) (s0 : Nat) (H : HS) : rn 141 73 [l0, l1, l2] [.ref s0] H = gk 141 76 [l0, l1, l2] [] H (gfd H 2 9 s0) := (rn_ev ..).trans (ev_gk rfl)
theorem x141_76 (l0 l1 l2 : Value) (s0 : Int32) (H : HS) : rn 141 76 [l0, l1, l2] [.int s0] H = if s0 = 0 then rn 141 89 [l0, l1, l2] [] H else rn 141 79 [l0, l1, l2] [] H := (rn_ev ..).trans (ev_bif rfl)
theorem x141_79 (l1 l2 : Value) (l0 : Nat) (H : HS) : rn 141 79 [.ref l0, l1, l2] [] H = rn 141 80 [.ref l0, l1, l2] [.ref l0] H := rn_nx rfl
theorem x141_80 (l0 l1 l2 : Value) (s0 : Nat) (H : HS) : rn 141 80 [l0, l1, l2] [.ref s0] H = gk 141 83 [l0, l1, l2] [] H (gfd H 0 5 s0) := (rn_ev ..).trans (ev_gk rfl)
theorem x141_83 (l0 l1 l2 : Value) (s0 : Nat) (H : HS) : rn 141 83 [l0, l1, l2] [.ref s0] H = rn 141 85 [l0, l1, l2] [.int 33, .ref s0] H := rn_nx rfl
theorem x141_85 (l0 l1 l2 : Value) (s0 : Int32) (s1 : Nat) (H : HS) (h : recv H s1 6 = true) : rn 141 85 [l0, l1, l2] [.int s0, .ref s1] H = bnd true 141 85 [l0, l1, l2] [] (rcal 19 [.ref s1, .int s0] H) := rn_cal (vcal h rfl)
theorem x141_88 (l0 l1 l2 : Value) (s0 : Nat) (H : HS) : rn 141 88 [l0, l1, l2] [.ref s0] H = rn 141 89 [l0, l1, l2] [] H := rn_nx rfl
theorem x141_89 (l0 l1 : Value) (l2 : Nat) (H : HS) : rn 141 89 [l0, l1, .ref l2] [] H = rn 141 90 [l0, l1, .ref l2] [.ref l2] H := rn_nx rfl
theorem x141_90 (l0 l1 l2 : Value) (s0 : Nat) (H : HS) : rn 141 90 [l0, l1, l2] [.ref s0] H = gk 141 93 [l0, l1, l2] [] H (gfd H 2 10 s0) := (rn_ev ..).trans (ev_gk rfl)
theorem x141_93 (l0 l1 l2 : Value) (s0 : Int32) (H : HS) : rn 141 93 [l0, l1, l2] [.int s0] H = if s0 = 0 then rn 141 113 [l0, l1, l2] [] H else rn 141 96 [l0, l1, l2] [] H := (rn_ev ..).trans (ev_bif rfl)
theorem x141_96 (l1 l2 : Value) (l0 : Nat) (H : HS) : rn 141 96 [.ref l0, l1, l2] [] H = rn 141 97 [.ref l0, l1, l2] [.ref l0] H := rn_nx rfl
theorem x141_97 (l0 l1 l2 : Value) (s0 : Nat) (H : HS) : rn 141 97 [l0, l1, l2] [.ref s0] H = gk 141 100 [l0, l1, l2] [] H (gfd H 0 5 s0) := (rn_ev ..).trans (ev_gk rfl)
theorem x141_100 (l0 l1 l2 : Value) (s0 : Nat) (H : HS) : rn 141 100 [l0, l1, l2] [.ref s0] H = rn 141 102 [l0, l1, l2] [.int 43, .ref s0] H := rn_nx rfl
theorem x141_102 (l0 l1 l2 : Value) (s0 : Int32) (s1 : Nat) (H : HS) (h : recv H s1 6 = true) : rn 141 102 [l0, l1, l2] [.int s0, .ref s1] H = bnd true 141 102 [l0, l1, l2] [] (rcal 19 [.ref s1, .int s0] H) := rn_cal (vcal h rfl)
theorem x141_105 (l0 l1 : Value) (l2 : Nat) (s0 : Nat) (H : HS) : rn 141 105 [l0, l1, .ref l2] [.ref s0] H = rn 141 106 [l0, l1, .ref l2] [.ref l2, .ref s0] H := rn_nx rfl
theorem x141_106 (l0 l1 l2 : Value) (s0 : Nat) (s1 : Nat) (H : HS) : rn 141 106 [l0, l1, l2] [.ref s0, .ref s1] H = gk 141 109 [l0, l1, l2] [.ref s1] H (gfd H 2 10 s0) := (rn_ev ..).trans (ev_gk rfl)
theorem x141_109 (l0 l1 l2 : Value) (s0 : Int32) (s1 : Nat) (H : HS) (h : recv H s1 6 = true) : rn 141 109 [l0, l1, l2] [.int s0, .ref s1] H = bnd true 141 109 [l0, l1, l2] [] (rcal 20 [.ref s1, .int s0] H) := rn_cal (vcal h rfl)
theorem x141_112 (l0 l1 l2 : Value) (s0 : Nat) (H : HS) : rn 141 112 [l0, l1, l2] [.ref s0] H = rn 141 113 [l0, l1, l2] [] H := rn_nx rfl
theorem x141_113 (l1 l2 : Value) (l0 : Nat) (H : HS) : rn 141 113 [.ref l0, l1, l2] [] H = rn 141 114 [.ref l0, l1, l2] [.ref l0] H := rn_nx rfl
theorem x141_114 (l0 l1 l2 : Value) (s0 : Nat) (H : HS) : rn 141 114 [l0, l1, l2] [.ref s0] H = gk 141 117 [l0, l1, l2] [] H (gfd H 0 5 s0) := (rn_ev ..).trans (ev_gk rfl)
theorem x141_117 (l0 l1 l2 : Value) (s0 : Nat) (H : HS) (h : recv H s0 6 = true) : rn 141 117 [l0, l1, l2] [.ref s0] H = bnd true 141 117 [l0, l1, l2] [] (rcal 23 [.ref s0] H) := rn_cal (vcal h rfl)
theorem x141_120 (l0 l1 l2 : Value) (s0 : Int32) (H : HS) : rn 141 120 [l0, l1, l2] [.int s0] H = some (.inl (some (.int s0)), H) := rn_end rfl
theorem c141 (a0 : Nat) (a1 : Int32) (H : HS) : rcal 141 [.ref a0, .int a1] H = rn 141 0 [.ref a0, .int a1, un] [] H := rfl
theorem x142_0 (l0 : Value) (l1 : Int32) (H : HS) : rn 142 0 [l0, .int l1] [] H = rn 142 1 [l0, .int l1] [.int l1] H := rn_nx rfl
theorem x142_1 (l0 l1 : Value) (s0 : Int32) (H : HS) : rn 142 1 [l0, l1] [.int s0] H = if s0 < 0 then rn 142 15 [l0, l1] [] H else rn 142 4 [l0, l1] [] H := (rn_ev ..).trans (ev_bif rfl)
theorem x142_4 (l0 : Value) (l1 : Int32) (H : HS) : rn 142 4 [l0, .int l1] [] H = rn 142 5 [l0, .int l1] [.int l1] H := rn_nx rfl
theorem x142_5 (l1 : Value) (l0 : Nat) (s0 : Int32) (H : HS) : rn 142 5 [.ref l0, l1] [.int s0] H = rn 142 6 [.ref l0, l1] [.ref l0, .int s0] H := rn_nx rfl
theorem x142_6 (l0 l1 : Value) (s0 : Nat) (s1 : Int32) (H : HS) : rn 142 6 [l0, l1] [.ref s0, .int s1] H = gk 142 9 [l0, l1] [.int s1] H (gfd H 0 5 s0) := (rn_ev ..).trans (ev_gk rfl)
theorem x142_9 (l0 l1 : Value) (s0 : Nat) (s1 : Int32) (H : HS) (h : recv H s0 6 = true) : rn 142 9 [l0, l1] [.ref s0, .int s1] H = bnd true 142 9 [l0, l1] [.int s1] (rcal 23 [.ref s0] H) := rn_cal (vcal h rfl)
theorem x142_12 (l0 l1 : Value) (s0 : Int32) (s1 : Int32) (H : HS) : rn 142 12 [l0, l1] [.int s0, .int s1] H = if s1 < s0 then rn 142 26 [l0, l1] [] H else rn 142 15 [l0, l1] [] H := (rn_ev ..).trans (ev_bif rfl)
theorem x142_15 (l0 l1 : Value) (H : HS) : rn 142 15 [l0, l1] [] H = some (.inr 0, hsx H) := rn_end rfl
theorem x142_26 (l1 : Value) (l0 : Nat) (H : HS) : rn 142 26 [.ref l0, l1] [] H = rn 142 27 [.ref l0, l1] [.ref l0] H := rn_nx rfl
theorem x142_27 (l0 l1 : Value) (s0 : Nat) (H : HS) : rn 142 27 [l0, l1] [.ref s0] H = gk 142 30 [l0, l1] [] H (gfd H 0 5 s0) := (rn_ev ..).trans (ev_gk rfl)
theorem x142_30 (l0 : Value) (l1 : Int32) (s0 : Nat) (H : HS) : rn 142 30 [l0, .int l1] [.ref s0] H = rn 142 31 [l0, .int l1] [.int l1, .ref s0] H := rn_nx rfl
theorem x142_31 (l0 l1 : Value) (s0 : Int32) (s1 : Nat) (H : HS) (h : recv H s1 6 = true) : rn 142 31 [l0, l1] [.int s0, .ref s1] H = bnd true 142 31 [l0, l1] [] (rcal 21 [.ref s1, .int s0] H) := rn_cal (vcal h rfl)
theorem x142_34 (l0 l1 : Value) (s0 : Int32) (H : HS) : rn 142 34 [l0, l1] [.int s0] H = if fitp 3 (.int s0) = true then some (.inl (some (.int s0)), H) else none := (rn_ev ..).trans (ev_ret rfl)
theorem c142 (a0 : Nat) (a1 : Int32) (H : HS) : rcal 142 [.ref a0, .int a1] H = rn 142 0 [.ref a0, .int a1] [] H := rfl
theorem x143_0 (l1 l2 l3 l4 l5 l6 : Value) (l0 : Nat) (H : HS) : rn 143 0 [.ref l0, l1, l2, l3, l4, l5, l6] [] H = rn 143 1 [.ref l0, l1, l2, l3, l4, l5, l6] [.ref l0] H := rn_nx rfl
theorem x143_1 (l0 l1 l2 l3 l4 l5 l6 : Value) (s0 : Nat) (H : HS) : rn 143 1 [l0, l1, l2, l3, l4, l5, l6] [.ref s0] H = gk 143 4 [l0, l1, l2, l3, l4, l5, l6] [] H (gfd H 0 5 s0) := (rn_ev ..).trans (ev_gk rfl)
theorem x143_4 (l0 l1 l2 l3 l4 l5 l6 : Value) (s0 : Nat) (H : HS) : rn 143 4 [l0, l1, l2, l3, l4, l5, l6] [.ref s0] H = rn 143 6 [l0, l1, l2, l3, l4, l5, l6] [.int 91, .ref s0] H := rn_nx rfl
theorem x143_6 (l0 l1 l2 l3 l4 l5 l6 : Value) (s0 : Int32) (s1 : Nat) (H : HS) (h : recv H s1 6 = true) : rn 143 6 [l0, l1, l2, l3, l4, l5, l6] [.int s0, .ref s1] H = bnd true 143 6 [l0, l1, l2, l3, l4, l5, l6] [] (rcal 19 [.ref s1, .int s0] H) := rn_cal (vcal h rfl)
theorem x143_9 (l0 l1 l2 l3 l4 l5 l6 : Value) (s0 : Nat) (H : HS) : rn 143 9 [l0, l1, l2, l3, l4, l5, l6] [.ref s0] H = rn 143 10 [l0, l1, l2, l3, l4, l5, l6] [] H := rn_nx rfl
theorem x143_10 (l0 l1 l2 l3 l4 l5 l6 : Value) (H : HS) : rn 143 10 [l0, l1, l2, l3, l4, l5, l6] [] H = rn 143 11 [l0, l1, l2, l3, l4, l5, l6] [.int 1] H := rn_nx rfl
theorem x143_11 (l0 l1 l2 l3 l4 l5 l6 : Value) (s0 : Int32) (H : HS) : rn 143 11 [l0, l1, l2, l3, l4, l5, l6] [.int s0] H = rn 143 12 [l0, (kl l1), .int s0, l3, l4, l5, l6] [] H := rn_nx rfl
theorem x143_12 (l1 l2 l3 l4 l5 l6 : Value) (l0 : Nat) (H : HS) : rn 143 12 [.ref l0, l1, l2, l3, l4, l5, l6] [] H = rn 143 13 [.ref l0, l1, l2, l3, l4, l5, l6] [.ref l0] H := rn_nx rfl
theorem x143_13 (l0 l1 l2 l3 l4 l5 l6 : Value) (s0 : Nat) (H : HS) : rn 143 13 [l0, l1, l2, l3, l4, l5, l6] [.ref s0] H = gk 143 16 [l0, l1, l2, l3, l4, l5, l6] [] H (gfd H 0 0 s0) := (rn_ev ..).trans (ev_gk rfl)
theorem x143_16 (l0 l1 l2 l3 l4 l5 l6 : Value) (s0 : Nat) (H : HS) : rn 143 16 [l0, l1, l2, l3, l4, l5, l6] [.ref s0] H = gk 143 19 [l0, l1, l2, l3, l4, l5, l6] [] H (gfd H 1 4 s0) := (rn_ev ..).trans (ev_gk rfl)
theorem x143_19 (l0 l1 l2 l3 l4 l5 l6 : Value) (s0 : Nat) (H : HS) : rn 143 19 [l0, l1, l2, l3, l4, l5, l6] [.ref s0] H = rn 143 20 [l0, l1, (kl l2), .ref s0, l4, l5, l6] [] H := rn_nx rfl
theorem x143_20 (l0 l1 l2 l4 l5 l6 : Value) (l3 : Nat) (H : HS) : rn 143 20 [l0, l1, l2, .ref l3, l4, l5, l6] [] H = rn 143 21 [l0, l1, l2, .ref l3, l4, l5, l6] [.ref l3] H := rn_nx rfl
theorem x143_21 (l0 l1 l2 l3 l4 l5 l6 : Value) (s0 : Nat) (H : HS) : rn 143 21 [l0, l1, l2, l3, l4, l5, l6] [.ref s0] H = gk 143 22 [l0, l1, l2, l3, l4, l5, l6] [] H (alen H s0) := (rn_ev ..).trans (ev_gk rfl)
theorem x143_22 (l0 l1 l2 l3 l4 l5 l6 : Value) (s0 : Int32) (H : HS) : rn 143 22 [l0, l1, l2, l3, l4, l5, l6] [.int s0] H = rn 143 24 [l0, l1, l2, (kl l3), .int s0, l5, l6] [] H := rn_nx rfl
theorem x143_24 (l0 l1 l2 l3 l4 l5 l6 : Value) (H : HS) : rn 143 24 [l0, l1, l2, l3, l4, l5, l6] [] H = rn 143 25 [l0, l1, l2, l3, l4, l5, l6] [.int 0] H := rn_nx rfl
theorem x143_25 (l0 l1 l2 l3 l4 l5 l6 : Value) (s0 : Int32) (H : HS) : rn 143 25 [l0, l1, l2, l3, l4, l5, l6] [.int s0] H = rn 143 27 [l0, l1, l2, l3, (kl l4), .int s0, l6] [] H := rn_nx rfl
theorem x143_27 (l0 l1 l2 l3 l4 l6 : Value) (l5 : Int32) (H : HS) : rn 143 27 [l0, l1, l2, l3, l4, .int l5, l6] [] H = rn 143 29 [l0, l1, l2, l3, l4, .int l5, l6] [.int l5] H := rn_nx rfl
theorem x143_29 (l0 l1 l2 l3 l5 l6 : Value) (l4 : Int32) (s0 : Int32) (H : HS) : rn 143 29 [l0, l1, l2, l3, .int l4, l5, l6] [.int s0] H = rn 143 31 [l0, l1, l2, l3, .int l4, l5, l6] [.int l4, .int s0] H := rn_nx rfl
theorem x143_31 (l0 l1 l2 l3 l4 l5 l6 : Value) (s0 : Int32) (s1 : Int32) (H : HS) : rn 143 31 [l0, l1, l2, l3, l4, l5, l6] [.int s0, .int s1] H = if s1 < s0 then rn 143 34 [l0, l1, l2, l3, l4, l5, l6] [] H else rn 143 84 [l0, l1, l2, l3, l4, l5, l6] [] H := (rn_ev ..).trans (ev_bin rfl)
theorem x143_34 (l0 l1 l2 l4 l5 l6 : Value) (l3 : Nat) (H : HS) : rn 143 34 [l0, l1, l2, .ref l3, l4, l5, l6] [] H = rn 143 35 [l0, l1, l2, .ref l3, l4, l5, l6] [.ref l3] H := rn_nx rfl
theorem x143_35 (l0 l1 l2 l3 l4 l6 : Value) (l5 : Int32) (s0 : Nat) (H : HS) : rn 143 35 [l0, l1, l2, l3, l4, .int l5, l6] [.ref s0] H = rn 143 37 [l0, l1, l2, l3, l4, .int l5, l6] [.int l5, .ref s0] H := rn_nx rfl
theorem x143_37 (l0 l1 l2 l3 l4 l5 l6 : Value) (s0 : Int32) (s1 : Nat) (H : HS) : rn 143 37 [l0, l1, l2, l3, l4, l5, l6] [.int s0, .ref s1] H = gk 143 38 [l0, l1, l2, l3, l4, l5, l6] [] H (aald H s1 s0) := (rn_ev ..).trans (ev_gk rfl)
theorem x143_38 (l0 l1 l2 l3 l4 l5 l6 : Value) (s0 : Nat) (H : HS) : rn 143 38 [l0, l1, l2, l3, l4, l5, l6] [.ref s0] H = rn 143 40 [l0, l1, l2, l3, l4, (kl l5), .ref s0] [] H := rn_nx rfl
theorem x143_40 (l0 l1 l2 l3 l4 l5 : Value) (l6 : Nat) (H : HS) : rn 143 40 [l0, l1, l2, l3, l4, l5, .ref l6] [] H = rn 143 42 [l0, l1, l2, l3, l4, l5, .ref l6] [.ref l6] H := rn_nx rfl
theorem x143_42 (l0 l2 l3 l4 l5 l6 : Value) (l1 : Int32) (s0 : Nat) (H : HS) : rn 143 42 [l0, .int l1, l2, l3, l4, l5, l6] [.ref s0] H = rn 143 43 [l0, .int l1, l2, l3, l4, l5, l6] [.int l1, .ref s0] H := rn_nx rfl
theorem x143_43 (l0 l1 l2 l3 l4 l5 l6 : Value) (s0 : Int32) (s1 : Nat) (H : HS) (h : recv H s1 2 = true) : rn 143 43 [l0, l1, l2, l3, l4, l5, l6] [.int s0, .ref s1] H = bnd true 143 43 [l0, l1, l2, l3, l4, l5, l6] [] (rcal 83 [.ref s1, .int s0] H) := rn_cal (vcal h rfl)
theorem x143_46 (l0 l1 l2 l3 l4 l5 l6 : Value) (s0 : Int32) (H : HS) : rn 143 46 [l0, l1, l2, l3, l4, l5, l6] [.int s0] H = if s0 = 0 then rn 143 78 [l0, l1, l2, l3, l4, l5, l6] [] H else rn 143 49 [l0, l1, l2, l3, l4, l5, l6] [] H := (rn_ev ..).trans (ev_bif rfl)
theorem x143_49 (l0 l1 l3 l4 l5 l6 : Value) (l2 : Int32) (H : HS) : rn 143 49 [l0, l1, .int l2, l3, l4, l5, l6] [] H = rn 143 50 [l0, l1, .int l2, l3, l4, l5, l6] [.int l2] H := rn_nx rfl
theorem x143_50 (l0 l1 l2 l3 l4 l5 l6 : Value) (s0 : Int32) (H : HS) : rn 143 50 [l0, l1, l2, l3, l4, l5, l6] [.int s0] H = if s0 = 0 then rn 143 53 [l0, l1, l2, l3, l4, l5, l6] [] H else rn 143 63 [l0, l1, l2, l3, l4, l5, l6] [] H := (rn_ev ..).trans (ev_bin rfl)
theorem x143_53 (l1 l2 l3 l4 l5 l6 : Value) (l0 : Nat) (H : HS) : rn 143 53 [.ref l0, l1, l2, l3, l4, l5, l6] [] H = rn 143 54 [.ref l0, l1, l2, l3, l4, l5, l6] [.ref l0] H := rn_nx rfl
theorem x143_54 (l0 l1 l2 l3 l4 l5 l6 : Value) (s0 : Nat) (H : HS) : rn 143 54 [l0, l1, l2, l3, l4, l5, l6] [.ref s0] H = gk 143 57 [l0, l1, l2, l3, l4, l5, l6] [] H (gfd H 0 5 s0) := (rn_ev ..).trans (ev_gk rfl)
theorem x143_57 (l0 l1 l2 l3 l4 l5 l6 : Value) (s0 : Nat) (H : HS) : rn 143 57 [l0, l1, l2, l3, l4, l5, l6] [.ref s0] H = rn 143 59 [l0, l1, l2, l3, l4, l5, l6] [.int 44, .ref s0] H := rn_nx rfl
theorem x143_59 (l0 l1 l2 l3 l4 l5 l6 : Value) (s0 : Int32) (s1 : Nat) (H : HS) (h : recv H s1 6 = true) : rn 143 59 [l0, l1, l2, l3, l4, l5, l6] [.int s0, .ref s1] H = bnd true 143 59 [l0, l1, l2, l3, l4, l5, l6] [] (rcal 19 [.ref s1, .int s0] H) := rn_cal (vcal h rfl)
theorem x143_62 (l0 l1 l2 l3 l4 l5 l6 : Value) (s0 : Nat) (H : HS) : rn 143 62 [l0, l1, l2, l3, l4, l5, l6] [.ref s0] H = rn 143 63 [l0, l1, l2, l3, l4, l5, l6] [] H := rn_nx rfl
theorem x143_63 (l1 l2 l3 l4 l5 l6 : Value) (l0 : Nat) (H : HS) : rn 143 63 [.ref l0, l1, l2, l3, l4, l5, l6] [] H = rn 143 64 [.ref l0, l1, l2, l3, l4, l5, l6] [.ref l0] H := rn_nx rfl
theorem x143_64 (l0 l1 l2 l3 l4 l5 l6 : Value) (s0 : Nat) (H : HS) : rn 143 64 [l0, l1, l2, l3, l4, l5, l6] [.ref s0] H = gk 143 67 [l0, l1, l2, l3, l4, l5, l6] [] H (gfd H 0 5 s0) := (rn_ev ..).trans (ev_gk rfl)
theorem x143_67 (l0 l1 l2 l3 l4 l5 : Value) (l6 : Nat) (s0 : Nat) (H : HS) : rn 143 67 [l0, l1, l2, l3, l4, l5, .ref l6] [.ref s0] H = rn 143 69 [l0, l1, l2, l3, l4, l5, .ref l6] [.ref l6, .ref s0] H := rn_nx rfl
theorem x143_69 (l0 l1 l2 l3 l4 l5 l6 : Value) (s0 : Nat) (s1 : Nat) (H : HS) : rn 143 69 [l0, l1, l2, l3, l4, l5, l6] [.ref s0, .ref s1] H = gk 143 72 [l0, l1, l2, l3, l4, l5, l6] [.ref s1] H (gfd H 2 1 s0) := (rn_ev ..).trans (ev_gk rfl)
theorem x143_72 (l0 l1 l2 l3 l4 l5 l6 : Value) (s0 : Int32) (s1 : Nat) (H : HS) (h : recv H s1 6 = true) : rn 143 72 [l0, l1, l2, l3, l4, l5, l6] [.int s0, .ref s1] H = bnd true 143 72 [l0, l1, l2, l3, l4, l5, l6] [] (rcal 20 [.ref s1, .int s0] H) := rn_cal (vcal h rfl)
theorem x143_75 (l0 l1 l2 l3 l4 l5 l6 : Value) (s0 : Nat) (H : HS) : rn 143 75 [l0, l1, l2, l3, l4, l5, l6] [.ref s0] H = rn 143 76 [l0, l1, l2, l3, l4, l5, l6] [] H := rn_nx rfl
theorem x143_76 (l0 l1 l2 l3 l4 l5 l6 : Value) (H : HS) : rn 143 76 [l0, l1, l2, l3, l4, l5, l6] [] H = rn 143 77 [l0, l1, l2, l3, l4, l5, l6] [.int 0] H := rn_nx rfl
theorem x143_77 (l0 l1 l2 l3 l4 l5 l6 : Value) (s0 : Int32) (H : HS) : rn 143 77 [l0, l1, l2, l3, l4, l5, l6] [.int s0] H = rn 143 78 [l0, (kl l1), .int s0, l3, l4, l5, l6] [] H := rn_nx rfl
theorem x143_78 (l0 l1 l2 l3 l4 l6 : Value) (l5 : Int32) (H : HS) : rn 143 78 [l0, l1, l2, l3, l4, .int l5, l6] [] H = rn 143 81 [l0, l1, l2, l3, (kl l4), .int (l5 + 1), l6] [] H := rn_nx rfl
theorem x143_81 (l0 l1 l2 l3 l4 l5 l6 : Value) (H : HS) : rn 143 81 [l0, l1, l2, l3, l4, l5, l6] [] H = rn 143 27 [l0, l1, l2, l3, l4, l5, l6] [] H := rn_nx rfl
theorem x143_84 (l1 l2 l3 l4 l5 l6 : Value) (l0 : Nat) (H : HS) : rn 143 84 [.ref l0, l1, l2, l3, l4, l5, l6] [] H = rn 143 85 [.ref l0, l1, l2, l3, l4, l5, l6] [.ref l0] H := rn_nx rfl
theorem x143_85 (l0 l1 l2 l3 l4 l5 l6 : Value) (s0 : Nat) (H : HS) : rn 143 85 [l0, l1, l2, l3, l4, l5, l6] [.ref s0] H = gk 143 88 [l0, l1, l2, l3, l4, l5, l6] [] H (gfd H 0 5 s0) := (rn_ev ..).trans (ev_gk rfl)
theorem x143_88 (l0 l1 l2 l3 l4 l5 l6 : Value) (s0 : Nat) (H : HS) : rn 143 88 [l0, l1, l2, l3, l4, l5, l6] [.ref s0] H = rn 143 90 [l0, l1, l2, l3, l4, l5, l6] [.int 93, .ref s0] H := rn_nx rfl
theorem x143_90 (l0 l1 l2 l3 l4 l5 l6 : Value) (s0 : Int32) (s1 : Nat) (H : HS) (h : recv H s1 6 = true) : rn 143 90 [l0, l1, l2, l3, l4, l5, l6] [.int s0, .ref s1] H = bnd true 143 90 [l0, l1, l2, l3, l4, l5, l6] [] (rcal 19 [.ref s1, .int s0] H) := rn_cal (vcal h rfl)
theorem x143_93 (l0 l1 l2 l3 l4 l5 l6 : Value) (s0 : Nat) (H : HS) : rn 143 93 [l0, l1, l2, l3, l4, l5, l6] [.ref s0] H = rn 143 94 [l0, l1, l2, l3, l4, l5, l6] [] H := rn_nx rfl
theorem x143_94 (l0 l1 l2 l3 l4 l5 l6 : Value) (H : HS) : rn 143 94 [l0, l1, l2, l3, l4, l5, l6] [] H = some (.inl none, H) := rn_end rfl
theorem c143 (a0 : Nat) (a1 : Int32) (H : HS) : rcal 143 [.ref a0, .int a1] H = rn 143 0 [.ref a0, .int a1, un, un, un, un, un] [] H := rfl
theorem x144_0 (l1 l2 : Value) (l0 : Nat) (H : HS) : rn 144 0 [.ref l0, l1, l2] [] H = rn 144 1 [.ref l0, l1, l2] [.ref l0] H := rn_nx rfl
theorem x144_1 (l0 l1 l2 : Value) (s0 : Nat) (H : HS) : rn 144 1 [l0, l1, l2] [.ref s0] H = gk 144 4 [l0, l1, l2] [] H (gfd H 0 0 s0) := (rn_ev ..).trans (ev_gk rfl)
theorem x144_4 (l0 l2 : Value) (l1 : Int32) (s0 : Nat) (H : HS) : rn 144 4 [l0, .int l1, l2] [.ref s0] H = rn 144 5 [l0, .int l1, l2] [.int l1, .ref s0] H := rn_nx rfl
theorem x144_5 (l0 l1 l2 : Value) (s0 : Int32) (s1 : Nat) (H : HS) (h : recv H s1 1 = true) : rn 144 5 [l0, l1, l2] [.int s0, .ref s1] H = bnd true 144 5 [l0, l1, l2] [] (rcal 59 [.ref s1, .int s0] H) := rn_cal (vcal h rfl)
theorem x144_8 (l0 l1 l2 : Value) (H : HS) : rn 144 8 [l0, l1, l2] [.null] H = rn 144 9 [l0, (kl l1), .null] [] H := rn_nx rfl
theorem x144_9 (l0 l1 : Value) (l2 : Nat) (H : HS) : rn 144 9 [l0, l1, .ref l2] [] H = rn 144 10 [l0, l1, .ref l2] [.ref l2] H := rn_nx rfl
theorem x144_9n (l0 l1 : Value) (H : HS) : rn 144 9 [l0, l1, .null] [] H = rn 144 10 [l0, l1, .null] [.null] H := rn_nx rfl
theorem x144_10 (l0 l1 l2 : Value) (H : HS) : rn 144 10 [l0, l1, l2] [.null] H = rn 144 13 [l0, l1, l2] [] H := rn_nx rfl
theorem x144_13 (l1 l2 : Value) (l0 : Nat) (H : HS) : rn 144 13 [.ref l0, l1, l2] [] H = rn 144 14 [.ref l0, l1, l2] [.ref l0] H := rn_nx rfl
theorem x144_14 (l0 l1 l2 : Value) (s0 : Nat) (H : HS) : rn 144 14 [l0, l1, l2] [.ref s0] H = gk 144 17 [l0, l1, l2] [] H (gfd H 0 5 s0) := (rn_ev ..).trans (ev_gk rfl)
theorem x144_17 (l0 l1 l2 : Value) (s0 : Nat) (H : HS) : rn 144 17 [l0, l1, l2] [.ref s0] H = rn 144 19 [l0, l1, l2] [.int 45, .ref s0] H := rn_nx rfl
theorem x144_19 (l0 l1 l2 : Value) (s0 : Int32) (s1 : Nat) (H : HS) (h : recv H s1 6 = true) : rn 144 19 [l0, l1, l2] [.int s0, .ref s1] H = bnd true 144 19 [l0, l1, l2] [] (rcal 19 [.ref s1, .int s0] H) := rn_cal (vcal h rfl)
theorem x144_22 (l0 l1 l2 : Value) (H : HS) : rn 144 22 [l0, l1, l2] [.null] H = rn 144 23 [l0, l1, l2] [] H := rn_nx rfl
theorem x144_23 (l0 l1 l2 : Value) (H : HS) : rn 144 23 [l0, l1, l2] [] H = rn 144 55 [l0, l1, l2] [] H := rn_nx rfl
theorem x144_55 (l0 l1 l2 : Value) (H : HS) : rn 144 55 [l0, l1, l2] [] H = some (.inl none, H) := rn_end rfl
theorem x144_22a (l0 l1 l2 : Value) (s0 : Nat) (H : HS) : rn 144 22 [l0, l1, l2] [.ref s0] H = rn 144 23 [l0, l1, l2] [] H := rn_nx rfl
theorem x144_10a (l0 l1 l2 : Value) (s0 : Nat) (H : HS) : rn 144 10 [l0, l1, l2] [.ref s0] H = rn 144 26 [l0, l1, l2] [] H := rn_nx rfl
theorem x144_26 (l1 l2 : Value) (l0 : Nat) (H : HS) : rn 144 26 [.ref l0, l1, l2] [] H = rn 144 27 [.ref l0, l1, l2] [.ref l0] H := rn_nx rfl
theorem x144_27 (l0 l1 l2 : Value) (s0 : Nat) (H : HS) : rn 144 27 [l0, l1, l2] [.ref s0] H = gk 144 30 [l0, l1, l2] [] H (gfd H 0 5 s0) := (rn_ev ..).trans (ev_gk rfl)
theorem x144_30 (l0 l1 : Value) (l2 : Nat) (s0 : Nat) (H : HS) : rn 144 30 [l0, l1, .ref l2] [.ref s0] H = rn 144 31 [l0, l1, .ref l2] [.ref l2, .ref s0] H := rn_nx rfl
theorem x144_31 (l0 l1 l2 : Value) (s0 : Nat) (s1 : Nat) (H : HS) (h : recv H s0 2 = true) : rn 144 31 [l0, l1, l2] [.ref s0, .ref s1] H = bnd true 144 31 [l0, l1, l2] [.ref s1] (rcal 84 [.ref s0] H) := rn_cal (vcal h rfl)
theorem x144_34 (l0 l1 l2 : Value) (s0 : Int32) (s1 : Nat) (H : HS) : rn 144 34 [l0, l1, l2] [.int s0, .ref s1] H = if 0 < s0 then rn 144 37 [l0, l1, l2] [.ref s1] H else rn 144 42 [l0, l1, l2] [.ref s1] H := (rn_ev ..).trans (ev_bin rfl)
theorem x144_37 (l0 l1 l2 : Value) (s0 : Nat) (H : HS) : rn 144 37 [l0, l1, l2] [.ref s0] H = rn 144 39 [l0, l1, l2] [.int 62, .ref s0] H := rn_nx rfl
theorem x144_39 (l0 l1 l2 : Value) (s0 : Int32) (s1 : Nat) (H : HS) : rn 144 39 [l0, l1, l2] [.int s0, .ref s1] H = rn 144 44 [l0, l1, l2] [.int s0, .ref s1] H := rn_nx rfl
theorem x144_44 (l0 l1 l2 : Value) (s0 : Int32) (s1 : Nat) (H : HS) (h : recv H s1 6 = true) : rn 144 44 [l0, l1, l2] [.int s0, .ref s1] H = bnd true 144 44 [l0, l1, l2] [] (rcal 19 [.ref s1, .int s0] H) := rn_cal (vcal h rfl)
theorem x144_47 (l0 l1 : Value) (l2 : Nat) (H : HS) : rn 144 47 [l0, l1, .ref l2] [.null] H = rn 144 48 [l0, l1, .ref l2] [.ref l2, .null] H := rn_nx rfl
theorem x144_48 (l0 l1 l2 : Value) (s0 : Nat) (H : HS) : rn 144 48 [l0, l1, l2] [.ref s0, .null] H = gk 144 51 [l0, l1, l2] [.null] H (gfd H 2 1 s0) := (rn_ev ..).trans (ev_gk rfl)
theorem x144_47a (l0 l1 : Value) (l2 : Nat) (s0 : Nat) (H : HS) : rn 144 47 [l0, l1, .ref l2] [.ref s0] H = rn 144 48 [l0, l1, .ref l2] [.ref l2, .ref s0] H := rn_nx rfl
theorem x144_48a (l0 l1 l2 : Value) (s0 : Nat) (s1 : Nat) (H : HS) : rn 144 48 [l0, l1, l2] [.ref s0, .ref s1] H = gk 144 51 [l0, l1, l2] [.ref s1] H (gfd H 2 1 s0) := (rn_ev ..).trans (ev_gk rfl)
theorem x144_51a (l0 l1 l2 : Value) (s0 : Int32) (s1 : Nat) (H : HS) (h : recv H s1 6 = true) : rn 144 51 [l0, l1, l2] [.int s0, .ref s1] H = bnd true 144 51 [l0, l1, l2] [] (rcal 20 [.ref s1, .int s0] H) := rn_cal (vcal h rfl)
theorem x144_54 (l0 l1 l2 : Value) (H : HS) : rn 144 54 [l0, l1, l2] [.null] H = rn 144 55 [l0, l1, l2] [] H := rn_nx rfl
theorem x144_54a (l0 l1 l2 : Value) (s0 : Nat) (H : HS) : rn 144 54 [l0, l1, l2] [.ref s0] H = rn 144 55 [l0, l1, l2] [] H := rn_nx rfl
theorem x144_42 (l0 l1 l2 : Value) (s0 : Nat) (H : HS) : rn 144 42 [l0, l1, l2] [.ref s0] H = rn 144 44 [l0, l1, l2] [.int 60, .ref s0] H := rn_nx rfl
theorem x144_8a (l0 l1 l2 : Value) (s0 : Nat) (H : HS) : rn 144 8 [l0, l1, l2] [.ref s0] H = rn 144 9 [l0, (kl l1), .ref s0] [] H := rn_nx rfl
theorem c144 (a0 : Nat) (a1 : Int32) (H : HS) : rcal 144 [.ref a0, .int a1] H = rn 144 0 [.ref a0, .int a1, un] [] H := rfl
theorem x145_0 (l0 : Nat) (H : HS) : rn 145 0 [.ref l0] [] H = rn 145 1 [.ref l0] [.ref l0] H := rn_nx rfl
theorem x145_1 (l0 : Value) (s0 : Nat) (H : HS) : rn 145 1 [l0] [.ref s0] H = gk 145 4 [l0] [] H (gfd H 0 3 s0) := (rn_ev ..).trans (ev_gk rfl)
theorem x145_4 (l0 : Value) (s0 : Nat) (H : HS) : rn 145 4 [l0] [.ref s0] H = gk 145 7 [l0] [] H (gfd H 3 2 s0) := (rn_ev ..).trans (ev_gk rfl)
theorem x145_7 (l0 : Value) (s0 : Int32) (H : HS) : rn 145 7 [l0] [.int s0] H = if 0 < s0 then rn 145 21 [l0] [] H else rn 145 10 [l0] [] H := (rn_ev ..).trans (ev_bif rfl)
theorem x145_10 (l0 : Value) (H : HS) : rn 145 10 [l0] [] H = some (.inr 2, hsx H) := rn_end rfl
theorem x145_21 (l0 : Nat) (H : HS) : rn 145 21 [.ref l0] [] H = rn 145 22 [.ref l0] [.ref l0] H := rn_nx rfl
theorem x145_22 (l0 : Value) (s0 : Nat) (H : HS) : rn 145 22 [l0] [.ref s0] H = gk 145 25 [l0] [] H (gfd H 0 0 s0) := (rn_ev ..).trans (ev_gk rfl)
theorem x145_25 (l0 : Nat) (s0 : Nat) (H : HS) : rn 145 25 [.ref l0] [.ref s0] H = rn 145 26 [.ref l0] [.ref l0, .ref s0] H := rn_nx rfl
theorem x145_26 (l0 : Value) (s0 : Nat) (s1 : Nat) (H : HS) : rn 145 26 [l0] [.ref s0, .ref s1] H = gk 145 29 [l0] [.ref s1] H (gfd H 0 3 s0) := (rn_ev ..).trans (ev_gk rfl)
theorem x145_29 (l0 : Value) (s0 : Nat) (s1 : Nat) (H : HS) (h : recv H s0 3 = true) : rn 145 29 [l0] [.ref s0, .ref s1] H = bnd true 145 29 [l0] [.ref s1] (rcal 33 [.ref s0] H) := rn_cal (vcal h rfl)
theorem x145_32 (l0 : Value) (s0 : Nat) (s1 : Nat) (H : HS) (h : recv H s1 1 = true) : rn 145 32 [l0] [.ref s0, .ref s1] H = bnd true 145 32 [l0] [] (rcal 35 [.ref s1, .ref s0] H) := rn_cal (vcal h rfl)
theorem x145_35 (l0 : Nat) (H : HS) : rn 145 35 [.ref l0] [] H = rn 145 36 [.ref l0] [.ref l0] H := rn_nx rfl
theorem x145_36 (l0 : Value) (s0 : Nat) (H : HS) : rn 145 36 [l0] [.ref s0] H = gk 145 39 [l0] [] H (gfd H 0 3 s0) := (rn_ev ..).trans (ev_gk rfl)
theorem x145_39 (l0 : Value) (s0 : Nat) (H : HS) : rn 145 39 [l0] [.ref s0] H = gk 145 42 [l0] [] H (gfd H 3 2 s0) := (rn_ev ..).trans (ev_gk rfl)
theorem x145_42 (l0 : Value) (s0 : Int32) (H : HS) : rn 145 42 [l0] [.int s0] H = some (.inl (some (.int s0)), H) := rn_end rfl
theorem c145 (a0 : Nat) (H : HS) : rcal 145 [.ref a0] H = rn 145 0 [.ref a0] [] H := rfl
theorem x146_0 (l0 : Nat) (H : HS) : rn 146 0 [.ref l0] [] H = rn 146 1 [.ref l0] [.ref l0] H := rn_nx rfl
theorem x146_1 (l0 : Value) (s0 : Nat) (H : HS) : rn 146 1 [l0] [.ref s0] H = gk 146 4 [l0] [] H (gfd H 0 1 s0) := (rn_ev ..).trans (ev_gk rfl)
theorem x146_4 (l0 : Nat) (s0 : Nat) (H : HS) : rn 146 4 [.ref l0] [.ref s0] H = rn 146 5 [.ref l0] [.ref l0, .ref s0] H := rn_nx rfl
theorem x146_5 (l0 : Value) (s0 : Nat) (s1 : Nat) (H : HS) : rn 146 5 [l0] [.ref s0, .ref s1] H = gk 146 8 [l0] [.ref s1] H (gfd H 0 0 s0) := (rn_ev ..).trans (ev_gk rfl)
theorem x146_8 (l0 : Value) (s0 : Nat) (s1 : Nat) (H : HS) (h : recv H s1 1 = true) : rn 146 8 [l0] [.ref s0, .ref s1] H = bnd true 146 8 [l0] [] (rcal 35 [.ref s1, .ref s0] H) := rn_cal (vcal h rfl)
theorem x146_11 (l0 : Nat) (H : HS) : rn 146 11 [.ref l0] [] H = rn 146 12 [.ref l0] [.ref l0] H := rn_nx rfl
theorem x146_12 (l0 : Value) (s0 : Nat) (H : HS) : rn 146 12 [l0] [.ref s0] H = rn 146 13 [l0] [.int 1, .ref s0] H := rn_nx rfl
theorem x146_13 (l0 : Value) (s0 : Int32) (s1 : Nat) (H : HS) : rn 146 13 [l0] [.int s0, .ref s1] H = pk 146 16 [l0] [] (pfd H true 0 6 s1 (.int s0)) := (rn_ev ..).trans (ev_pk rfl)
theorem x146_16 (l0 : Value) (H : HS) : rn 146 16 [l0] [] H = some (.inl none, H) := rn_end rfl
theorem c146 (a0 : Nat) (H : HS) : rcal 146 [.ref a0] H = rn 146 0 [.ref a0] [] H := rfl
theorem x147_0 (l0 : Nat) (H : HS) : rn 147 0 [.ref l0] [] H = rn 147 1 [.ref l0] [.ref l0] H := rn_nx rfl
theorem x147_1 (l0 : Value) (s0 : Nat) (H : HS) : rn 147 1 [l0] [.ref s0] H = gk 147 4 [l0] [] H (gfd H 0 6 s0) := (rn_ev ..).trans (ev_gk rfl)
theorem x147_4 (l0 : Value) (s0 : Int32) (H : HS) : rn 147 4 [l0] [.int s0] H = if s0 = 0 then rn 147 7 [l0] [] H else rn 147 18 [l0] [] H := (rn_ev ..).trans (ev_bin rfl)
theorem x147_7 (l0 : Value) (H : HS) : rn 147 7 [l0] [] H = some (.inr 2, hsx H) := rn_end rfl
theorem x147_18 (l0 : Nat) (H : HS) : rn 147 18 [.ref l0] [] H = rn 147 19 [.ref l0] [.ref l0] H := rn_nx rfl
theorem x147_19 (l0 : Value) (s0 : Nat) (H : HS) : rn 147 19 [l0] [.ref s0] H = gk 147 22 [l0] [] H (gfd H 0 0 s0) := (rn_ev ..).trans (ev_gk rfl)
theorem x147_22 (l0 : Nat) (s0 : Nat) (H : HS) : rn 147 22 [.ref l0] [.ref s0] H = rn 147 23 [.ref l0] [.ref l0, .ref s0] H := rn_nx rfl
theorem x147_23 (l0 : Value) (s0 : Nat) (s1 : Nat) (H : HS) : rn 147 23 [l0] [.ref s0, .ref s1] H = gk 147 26 [l0] [.ref s1] H (gfd H 0 1 s0) := (rn_ev ..).trans (ev_gk rfl)
theorem x147_26 (l0 : Value) (s0 : Nat) (s1 : Nat) (H : HS) (h : recv H s1 1 = true) : rn 147 26 [l0] [.ref s0, .ref s1] H = bnd true 147 26 [l0] [] (rcal 35 [.ref s1, .ref s0] H) := rn_cal (vcal h rfl)
theorem x147_29 (l0 : Nat) (H : HS) : rn 147 29 [.ref l0] [] H = rn 147 30 [.ref l0] [.ref l0] H := rn_nx rfl
theorem x147_30 (l0 : Value) (s0 : Nat) (H : HS) : rn 147 30 [l0] [.ref s0] H = gk 147 33 [l0] [] H (gfd H 0 3 s0) := (rn_ev ..).trans (ev_gk rfl)
theorem x147_33 (l0 : Value) (s0 : Nat) (H : HS) : rn 147 33 [l0] [.ref s0] H = rn 147 34 [l0] [.int 0, .ref s0] H := rn_nx rfl
theorem x147_34 (l0 : Value) (s0 : Int32) (s1 : Nat) (H : HS) : rn 147 34 [l0] [.int s0, .ref s1] H = pk 147 37 [l0] [] (pfd H true 3 2 s1 (.int s0)) := (rn_ev ..).trans (ev_pk rfl)
theorem x147_37 (l0 : Value) (H : HS) : rn 147 37 [l0] [] H = some (.inl none, H) := rn_end rfl
theorem c147 (a0 : Nat) (H : HS) : rcal 147 [.ref a0] H = rn 147 0 [.ref a0] [] H := rfl
