/-! a step as one rewriting: the methods 148 to 243 -/
theorem x148_0 (l0 : Nat) (H : HS) : rn 148 0 [.ref l0] [] H = rn 148 1 [.ref l0] [.ref l0] H := rn_nx rfl
theorem x148_1 (l0 : Value) (s0 : Nat) (H : HS) : rn 148 1 [l0] [.ref s0] H = rn 148 4 [l0] [] H := rn_nx rfl
theorem x148_4 (l0 : Nat) (H : HS) : rn 148 4 [.ref l0] [] H = rn 148 5 [.ref l0] [.ref l0] H := rn_nx rfl
theorem x148_5 (l0 : Value) (s0 : Nat) (H : HS) : rn 148 5 [l0] [.ref s0] H = rn 148 7 [l0] [.int 76, .ref s0] H := rn_nx rfl
theorem x148_7 (l0 : Value) (s0 : Int32) (s1 : Nat) (H : HS) : rn 148 7 [l0] [.int s0, .ref s1] H = if s0 < 0 ∨ 100000 < s0.toNatClampNeg then none else rn 148 9 [l0] [.ref H.2.1, .ref s1] (hsn H (100, List.replicate s0.toNatClampNeg (.int 0)) s0.toNatClampNeg) := (rn_ev ..).trans (ev_if rfl)
theorem x148_9 (l0 : Value) (s0 : Nat) (s1 : Nat) (H : HS) : rn 148 9 [l0] [.ref s0, .ref s1] H = pk 148 12 [l0] [] (pfd H true 5 0 s1 (.ref s0)) := (rn_ev ..).trans (ev_pk rfl)
theorem x148_12 (l0 : Nat) (H : HS) : rn 148 12 [.ref l0] [] H = rn 148 13 [.ref l0] [.ref l0] H := rn_nx rfl
theorem x148_13 (l0 : Value) (s0 : Nat) (H : HS) : rn 148 13 [l0] [.ref s0] H = rn 148 15 [l0] [.int 76, .ref s0] H := rn_nx rfl
theorem x148_15 (l0 : Value) (s0 : Int32) (s1 : Nat) (H : HS) : rn 148 15 [l0] [.int s0, .ref s1] H = if s0 < 0 ∨ 100000 < s0.toNatClampNeg then none else rn 148 17 [l0] [.ref H.2.1, .ref s1] (hsn H (100, List.replicate s0.toNatClampNeg (.int 0)) s0.toNatClampNeg) := (rn_ev ..).trans (ev_if rfl)
theorem x148_17 (l0 : Value) (s0 : Nat) (s1 : Nat) (H : HS) : rn 148 17 [l0] [.ref s0, .ref s1] H = pk 148 20 [l0] [] (pfd H true 5 1 s1 (.ref s0)) := (rn_ev ..).trans (ev_pk rfl)
theorem x148_20 (l0 : Nat) (H : HS) : rn 148 20 [.ref l0] [] H = rn 148 21 [.ref l0] [.ref l0] H := rn_nx rfl
theorem x148_21 (l0 : Value) (s0 : Nat) (H : HS) : rn 148 21 [l0] [.ref s0] H = rn 148 23 [l0] [.int 76, .ref s0] H := rn_nx rfl
theorem x148_23 (l0 : Value) (s0 : Int32) (s1 : Nat) (H : HS) : rn 148 23 [l0] [.int s0, .ref s1] H = if s0 < 0 ∨ 100000 < s0.toNatClampNeg then none else rn 148 25 [l0] [.ref H.2.1, .ref s1] (hsn H (100, List.replicate s0.toNatClampNeg (.int 0)) s0.toNatClampNeg) := (rn_ev ..).trans (ev_if rfl)
theorem x148_25 (l0 : Value) (s0 : Nat) (s1 : Nat) (H : HS) : rn 148 25 [l0] [.ref s0, .ref s1] H = pk 148 28 [l0] [] (pfd H true 5 2 s1 (.ref s0)) := (rn_ev ..).trans (ev_pk rfl)
theorem x148_28 (l0 : Nat) (H : HS) : rn 148 28 [.ref l0] [] H = rn 148 29 [.ref l0] [.ref l0] H := rn_nx rfl
theorem x148_29 (l0 : Value) (s0 : Nat) (H : HS) : rn 148 29 [l0] [.ref s0] H = rn 148 31 [l0] [.int 76, .ref s0] H := rn_nx rfl
theorem x148_31 (l0 : Value) (s0 : Int32) (s1 : Nat) (H : HS) : rn 148 31 [l0] [.int s0, .ref s1] H = if s0 < 0 ∨ 100000 < s0.toNatClampNeg then none else rn 148 33 [l0] [.ref H.2.1, .ref s1] (hsn H (100, List.replicate s0.toNatClampNeg (.int 0)) s0.toNatClampNeg) := (rn_ev ..).trans (ev_if rfl)
theorem x148_33 (l0 : Value) (s0 : Nat) (s1 : Nat) (H : HS) : rn 148 33 [l0] [.ref s0, .ref s1] H = pk 148 36 [l0] [] (pfd H true 5 3 s1 (.ref s0)) := (rn_ev ..).trans (ev_pk rfl)
theorem x148_36 (l0 : Nat) (H : HS) : rn 148 36 [.ref l0] [] H = rn 148 37 [.ref l0] [.ref l0] H := rn_nx rfl
theorem x148_37 (l0 : Value) (s0 : Nat) (H : HS) : rn 148 37 [l0] [.ref s0] H = rn 148 40 [l0] [.int 608, .ref s0] H := rn_nx rfl
theorem x148_40 (l0 : Value) (s0 : Int32) (s1 : Nat) (H : HS) : rn 148 40 [l0] [.int s0, .ref s1] H = if s0 < 0 ∨ 100000 < s0.toNatClampNeg then none else rn 148 42 [l0] [.ref H.2.1, .ref s1] (hsn H (100, List.replicate s0.toNatClampNeg (.int 0)) s0.toNatClampNeg) := (rn_ev ..).trans (ev_if rfl)
theorem x148_42 (l0 : Value) (s0 : Nat) (s1 : Nat) (H : HS) : rn 148 42 [l0] [.ref s0, .ref s1] H = pk 148 45 [l0] [] (pfd H true 5 5 s1 (.ref s0)) := (rn_ev ..).trans (ev_pk rfl)
theorem x148_45 (l0 : Nat) (H : HS) : rn 148 45 [.ref l0] [] H = rn 148 46 [.ref l0] [.ref l0] H := rn_nx rfl
theorem x148_46 (l0 : Value) (s0 : Nat) (H : HS) : rn 148 46 [l0] [.ref s0] H = rn 148 47 [l0] [.int (-1), .ref s0] H := rn_nx rfl
theorem x148_47 (l0 : Value) (s0 : Int32) (s1 : Nat) (H : HS) : rn 148 47 [l0] [.int s0, .ref s1] H = pk 148 50 [l0] [] (pfd H true 5 7 s1 (.int s0)) := (rn_ev ..).trans (ev_pk rfl)
theorem x148_50 (l0 : Nat) (H : HS) : rn 148 50 [.ref l0] [] H = rn 148 51 [.ref l0] [.ref l0] H := rn_nx rfl
theorem x148_51 (l0 : Value) (s0 : Nat) (H : HS) : rn 148 51 [l0] [.ref s0] H = rn 148 52 [l0] [.int (-1), .ref s0] H := rn_nx rfl
theorem x148_52 (l0 : Value) (s0 : Int32) (s1 : Nat) (H : HS) : rn 148 52 [l0] [.int s0, .ref s1] H = pk 148 55 [l0] [] (pfd H true 5 8 s1 (.int s0)) := (rn_ev ..).trans (ev_pk rfl)
theorem x148_55 (l0 : Nat) (H : HS) : rn 148 55 [.ref l0] [] H = rn 148 56 [.ref l0] [.ref l0] H := rn_nx rfl
theorem x148_56 (l0 : Value) (s0 : Nat) (H : HS) : rn 148 56 [l0] [.ref s0] H = rn 148 58 [l0] [.int 60, .ref s0] H := rn_nx rfl
theorem x148_58 (l0 : Value) (s0 : Int32) (s1 : Nat) (H : HS) : rn 148 58 [l0] [.int s0, .ref s1] H = if s0 < 0 ∨ 100000 < s0.toNatClampNeg then none else rn 148 60 [l0] [.ref H.2.1, .ref s1] (hsn H (100, List.replicate s0.toNatClampNeg (.int 0)) s0.toNatClampNeg) := (rn_ev ..).trans (ev_if rfl)
theorem x148_60 (l0 : Value) (s0 : Nat) (s1 : Nat) (H : HS) : rn 148 60 [l0] [.ref s0, .ref s1] H = pk 148 63 [l0] [] (pfd H true 5 10 s1 (.ref s0)) := (rn_ev ..).trans (ev_pk rfl)
theorem x148_63 (l0 : Nat) (H : HS) : rn 148 63 [.ref l0] [] H = rn 148 64 [.ref l0] [.ref l0] H := rn_nx rfl
theorem x148_64 (l0 : Value) (s0 : Nat) (H : HS) : rn 148 64 [l0] [.ref s0] H = rn 148 66 [l0] [.int 12, .ref s0] H := rn_nx rfl
theorem x148_66 (l0 : Value) (s0 : Int32) (s1 : Nat) (H : HS) : rn 148 66 [l0] [.int s0, .ref s1] H = if s0 < 0 ∨ 100000 < s0.toNatClampNeg then none else rn 148 68 [l0] [.ref H.2.1, .ref s1] (hsn H (100, List.replicate s0.toNatClampNeg (.int 0)) s0.toNatClampNeg) := (rn_ev ..).trans (ev_if rfl)
theorem x148_68 (l0 : Value) (s0 : Nat) (s1 : Nat) (H : HS) : rn 148 68 [l0] [.ref s0, .ref s1] H = pk 148 71 [l0] [] (pfd H true 5 12 s1 (.ref s0)) := (rn_ev ..).trans (ev_pk rfl)
theorem x148_71 (l0 : Nat) (H : HS) : rn 148 71 [.ref l0] [] H = rn 148 72 [.ref l0] [.ref l0] H := rn_nx rfl
theorem x148_72 (l0 : Value) (s0 : Nat) (H : HS) : rn 148 72 [l0] [.ref s0] H = rn 148 74 [l0] [.int 41, .ref s0] H := rn_nx rfl
theorem x148_74 (l0 : Value) (s0 : Int32) (s1 : Nat) (H : HS) : rn 148 74 [l0] [.int s0, .ref s1] H = if s0 < 0 ∨ 100000 < s0.toNatClampNeg then none else rn 148 76 [l0] [.ref H.2.1, .ref s1] (hsn H (101, List.replicate s0.toNatClampNeg (.int 0)) s0.toNatClampNeg) := (rn_ev ..).trans (ev_if rfl)
theorem x148_76 (l0 : Value) (s0 : Nat) (s1 : Nat) (H : HS) : rn 148 76 [l0] [.ref s0, .ref s1] H = rn 148 77 [l0] [.ref s0, .ref s0, .ref s1] H := rn_nx rfl
theorem x148_77 (l0 : Value) (s0 : Nat) (s1 : Nat) (s2 : Nat) (H : HS) : rn 148 77 [l0] [.ref s0, .ref s1, .ref s2] H = rn 148 78 [l0] [.int 0, .ref s0, .ref s1, .ref s2] H := rn_nx rfl
theorem x148_78 (l0 : Value) (s0 : Int32) (s1 : Nat) (s2 : Nat) (s3 : Nat) (H : HS) : rn 148 78 [l0] [.int s0, .ref s1, .ref s2, .ref s3] H = rn 148 80 [l0] [.int 115, .int s0, .ref s1, .ref s2, .ref s3] H := rn_nx rfl
theorem x148_80 (l0 : Value) (s0 : Int32) (s1 : Int32) (s2 : Nat) (s3 : Nat) (s4 : Nat) (H : HS) : rn 148 80 [l0] [.int s0, .int s1, .ref s2, .ref s3, .ref s4] H = pk 148 81 [l0] [.ref s3, .ref s4] (ast H 101 s2 s1 (.int (vp_nar .char s0))) := (rn_ev ..).trans (ev_pk rfl)
theorem x148_81 (l0 : Value) (s0 : Nat) (s1 : Nat) (H : HS) : rn 148 81 [l0] [.ref s0, .ref s1] H = rn 148 82 [l0] [.ref s0, .ref s0, .ref s1] H := rn_nx rfl
theorem x148_82 (l0 : Value) (s0 : Nat) (s1 : Nat) (s2 : Nat) (H : HS) : rn 148 82 [l0] [.ref s0, .ref s1, .ref s2] H = rn 148 83 [l0] [.int 1, .ref s0, .ref s1, .ref s2] H := rn_nx rfl
theorem x148_83 (l0 : Value) (s0 : Int32) (s1 : Nat) (s2 : Nat) (s3 : Nat) (H : HS) : rn 148 83 [l0] [.int s0, .ref s1, .ref s2, .ref s3] H = rn 148 85 [l0] [.int 116, .int s0, .ref s1, .ref s2, .ref s3] H := rn_nx rfl
theorem x148_85 (l0 : Value) (s0 : Int32) (s1 : Int32) (s2 : Nat) (s3 : Nat) (s4 : Nat) (H : HS) : rn 148 85 [l0] [.int s0, .int s1, .ref s2, .ref s3, .ref s4] H = pk 148 86 [l0] [.ref s3, .ref s4] (ast H 101 s2 s1 (.int (vp_nar .char s0))) := (rn_ev ..).trans (ev_pk rfl)
theorem x148_86 (l0 : Value) (s0 : Nat) (s1 : Nat) (H : HS) : rn 148 86 [l0] [.ref s0, .ref s1] H = rn 148 87 [l0] [.ref s0, .ref s0, .ref s1] H := rn_nx rfl
theorem x148_87 (l0 : Value) (s0 : Nat) (s1 : Nat) (s2 : Nat) (H : HS) : rn 148 87 [l0] [.ref s0, .ref s1, .ref s2] H = rn 148 88 [l0] [.int 2, .ref s0, .ref s1, .ref s2] H := rn_nx rfl
theorem x148_88 (l0 : Value) (s0 : Int32) (s1 : Nat) (s2 : Nat) (s3 : Nat) (H : HS) : rn 148 88 [l0] [.int s0, .ref s1, .ref s2, .ref s3] H = rn 148 90 [l0] [.int 97, .int s0, .ref s1, .ref s2, .ref s3] H := rn_nx rfl
theorem x148_90 (l0 : Value) (s0 : Int32) (s1 : Int32) (s2 : Nat) (s3 : Nat) (s4 : Nat) (H : HS) : rn 148 90 [l0] [.int s0, .int s1, .ref s2, .ref s3, .ref s4] H = pk 148 91 [l0] [.ref s3, .ref s4] (ast H 101 s2 s1 (.int (vp_nar .char s0))) := (rn_ev ..).trans (ev_pk rfl)
theorem x148_91 (l0 : Value) (s0 : Nat) (s1 : Nat) (H : HS) : rn 148 91 [l0] [.ref s0, .ref s1] H = rn 148 92 [l0] [.ref s0, .ref s0, .ref s1] H := rn_nx rfl
theorem x148_92 (l0 : Value) (s0 : Nat) (s1 : Nat) (s2 : Nat) (H : HS) : rn 148 92 [l0] [.ref s0, .ref s1, .ref s2] H = rn 148 93 [l0] [.int 3, .ref s0, .ref s1, .ref s2] H := rn_nx rfl
theorem x148_93 (l0 : Value) (s0 : Int32) (s1 : Nat) (s2 : Nat) (s3 : Nat) (H : HS) : rn 148 93 [l0] [.int s0, .ref s1, .ref s2, .ref s3] H = rn 148 95 [l0] [.int 116, .int s0, .ref s1, .ref s2, .ref s3] H := rn_nx rfl
theorem x148_95 (l0 : Value) (s0 : Int32) (s1 : Int32) (s2 : Nat) (s3 : Nat) (s4 : Nat) (H : HS) : rn 148 95 [l0] [.int s0, .int s1, .ref s2, .ref s3, .ref s4] H = pk 148 96 [l0] [.ref s3, .ref s4] (ast H 101 s2 s1 (.int (vp_nar .char s0))) := (rn_ev ..).trans (ev_pk rfl)
theorem x148_96 (l0 : Value) (s0 : Nat) (s1 : Nat) (H : HS) : rn 148 96 [l0] [.ref s0, .ref s1] H = rn 148 97 [l0] [.ref s0, .ref s0, .ref s1] H := rn_nx rfl
theorem x148_97 (l0 : Value) (s0 : Nat) (s1 : Nat) (s2 : Nat) (H : HS) : rn 148 97 [l0] [.ref s0, .ref s1, .ref s2] H = rn 148 98 [l0] [.int 4, .ref s0, .ref s1, .ref s2] H := rn_nx rfl
theorem x148_98 (l0 : Value) (s0 : Int32) (s1 : Nat) (s2 : Nat) (s3 : Nat) (H : HS) : rn 148 98 [l0] [.int s0, .ref s1, .ref s2, .ref s3] H = rn 148 100 [l0] [.int 105, .int s0, .ref s1, .ref s2, .ref s3] H := rn_nx rfl
theorem x148_100 (l0 : Value) (s0 : Int32) (s1 : Int32) (s2 : Nat) (s3 : Nat) (s4 : Nat) (H : HS) : rn 148 100 [l0] [.int s0, .int s1, .ref s2, .ref s3, .ref s4] H = pk 148 101 [l0] [.ref s3, .ref s4] (ast H 101 s2 s1 (.int (vp_nar .char s0))) := (rn_ev ..).trans (ev_pk rfl)
theorem x148_101 (l0 : Value) (s0 : Nat) (s1 : Nat) (H : HS) : rn 148 101 [l0] [.ref s0, .ref s1] H = rn 148 102 [l0] [.ref s0, .ref s0, .ref s1] H := rn_nx rfl
theorem x148_102 (l0 : Value) (s0 : Nat) (s1 : Nat) (s2 : Nat) (H : HS) : rn 148 102 [l0] [.ref s0, .ref s1, .ref s2] H = rn 148 103 [l0] [.int 5, .ref s0, .ref s1, .ref s2] H := rn_nx rfl
theorem x148_103 (l0 : Value) (s0 : Int32) (s1 : Nat) (s2 : Nat) (s3 : Nat) (H : HS) : rn 148 103 [l0] [.int s0, .ref s1, .ref s2, .ref s3] H = rn 148 105 [l0] [.int 111, .int s0, .ref s1, .ref s2, .ref s3] H := rn_nx rfl
theorem x148_105 (l0 : Value) (s0 : Int32) (s1 : Int32) (s2 : Nat) (s3 : Nat) (s4 : Nat) (H : HS) : rn 148 105 [l0] [.int s0, .int s1, .ref s2, .ref s3, .ref s4] H = pk 148 106 [l0] [.ref s3, .ref s4] (ast H 101 s2 s1 (.int (vp_nar .char s0))) := (rn_ev ..).trans (ev_pk rfl)
theorem x148_106 (l0 : Value) (s0 : Nat) (s1 : Nat) (H : HS) : rn 148 106 [l0] [.ref s0, .ref s1] H = rn 148 107 [l0] [.ref s0, .ref s0, .ref s1] H := rn_nx rfl
theorem x148_107 (l0 : Value) (s0 : Nat) (s1 : Nat) (s2 : Nat) (H : HS) : rn 148 107 [l0] [.ref s0, .ref s1, .ref s2] H = rn 148 109 [l0] [.int 6, .ref s0, .ref s1, .ref s2] H := rn_nx rfl
theorem x148_109 (l0 : Value) (s0 : Int32) (s1 : Nat) (s2 : Nat) (s3 : Nat) (H : HS) : rn 148 109 [l0] [.int s0, .ref s1, .ref s2, .ref s3] H = rn 148 111 [l0] [.int 110, .int s0, .ref s1, .ref s2, .ref s3] H := rn_nx rfl
theorem x148_111 (l0 : Value) (s0 : Int32) (s1 : Int32) (s2 : Nat) (s3 : Nat) (s4 : Nat) (H : HS) : rn 148 111 [l0] [.int s0, .int s1, .ref s2, .ref s3, .ref s4] H = pk 148 112 [l0] [.ref s3, .ref s4] (ast H 101 s2 s1 (.int (vp_nar .char s0))) := (rn_ev ..).trans (ev_pk rfl)
theorem x148_112 (l0 : Value) (s0 : Nat) (s1 : Nat) (H : HS) : rn 148 112 [l0] [.ref s0, .ref s1] H = rn 148 113 [l0] [.ref s0, .ref s0, .ref s1] H := rn_nx rfl
theorem x148_113 (l0 : Value) (s0 : Nat) (s1 : Nat) (s2 : Nat) (H : HS) : rn 148 113 [l0] [.ref s0, .ref s1, .ref s2] H = rn 148 115 [l0] [.int 7, .ref s0, .ref s1, .ref s2] H := rn_nx rfl
theorem x148_115 (l0 : Value) (s0 : Int32) (s1 : Nat) (s2 : Nat) (s3 : Nat) (H : HS) : rn 148 115 [l0] [.int s0, .ref s1, .ref s2, .ref s3] H = rn 148 117 [l0] [.int 32, .int s0, .ref s1, .ref s2, .ref s3] H := rn_nx rfl
theorem x148_117 (l0 : Value) (s0 : Int32) (s1 : Int32) (s2 : Nat) (s3 : Nat) (s4 : Nat) (H : HS) : rn 148 117 [l0] [.int s0, .int s1, .ref s2, .ref s3, .ref s4] H = pk 148 118 [l0] [.ref s3, .ref s4] (ast H 101 s2 s1 (.int (vp_nar .char s0))) := (rn_ev ..).trans (ev_pk rfl)
theorem x148_118 (l0 : Value) (s0 : Nat) (s1 : Nat) (H : HS) : rn 148 118 [l0] [.ref s0, .ref s1] H = rn 148 119 [l0] [.ref s0, .ref s0, .ref s1] H := rn_nx rfl
theorem x148_119 (l0 : Value) (s0 : Nat) (s1 : Nat) (s2 : Nat) (H : HS) : rn 148 119 [l0] [.ref s0, .ref s1, .ref s2] H = rn 148 121 [l0] [.int 8, .ref s0, .ref s1, .ref s2] H := rn_nx rfl
theorem x148_121 (l0 : Value) (s0 : Int32) (s1 : Nat) (s2 : Nat) (s3 : Nat) (H : HS) : rn 148 121 [l0] [.int s0, .ref s1, .ref s2, .ref s3] H = rn 148 123 [l0] [.int 116, .int s0, .ref s1, .ref s2, .ref s3] H := rn_nx rfl
theorem x148_123 (l0 : Value) (s0 : Int32) (s1 : Int32) (s2 : Nat) (s3 : Nat) (s4 : Nat) (H : HS) : rn 148 123 [l0] [.int s0, .int s1, .ref s2, .ref s3, .ref s4] H = pk 148 124 [l0] [.ref s3, .ref s4] (ast H 101 s2 s1 (.int (vp_nar .char s0))) := (rn_ev ..).trans (ev_pk rfl)
theorem x148_124 (l0 : Value) (s0 : Nat) (s1 : Nat) (H : HS) : rn 148 124 [l0] [.ref s0, .ref s1] H = rn 148 125 [l0] [.ref s0, .ref s0, .ref s1] H := rn_nx rfl
theorem x148_125 (l0 : Value) (s0 : Nat) (s1 : Nat) (s2 : Nat) (H : HS) : rn 148 125 [l0] [.ref s0, .ref s1, .ref s2] H = rn 148 127 [l0] [.int 9, .ref s0, .ref s1, .ref s2] H := rn_nx rfl
theorem x148_127 (l0 : Value) (s0 : Int32) (s1 : Nat) (s2 : Nat) (s3 : Nat) (H : HS) : rn 148 127 [l0] [.int s0, .ref s1, .ref s2, .ref s3] H = rn 148 129 [l0] [.int 114, .int s0, .ref s1, .ref s2, .ref s3] H := rn_nx rfl
theorem x148_129 (l0 : Value) (s0 : Int32) (s1 : Int32) (s2 : Nat) (s3 : Nat) (s4 : Nat) (H : HS) : rn 148 129 [l0] [.int s0, .int s1, .ref s2, .ref s3, .ref s4] H = pk 148 130 [l0] [.ref s3, .ref s4] (ast H 101 s2 s1 (.int (vp_nar .char s0))) := (rn_ev ..).trans (ev_pk rfl)
theorem x148_130 (l0 : Value) (s0 : Nat) (s1 : Nat) (H : HS) : rn 148 130 [l0] [.ref s0, .ref s1] H = rn 148 131 [l0] [.ref s0, .ref s0, .ref s1] H := rn_nx rfl
theorem x148_131 (l0 : Value) (s0 : Nat) (s1 : Nat) (s2 : Nat) (H : HS) : rn 148 131 [l0] [.ref s0, .ref s1, .ref s2] H = rn 148 133 [l0] [.int 10, .ref s0, .ref s1, .ref s2] H := rn_nx rfl
theorem x148_133 (l0 : Value) (s0 : Int32) (s1 : Nat) (s2 : Nat) (s3 : Nat) (H : HS) : rn 148 133 [l0] [.int s0, .ref s1, .ref s2, .ref s3] H = rn 148 135 [l0] [.int 97, .int s0, .ref s1, .ref s2, .ref s3] H := rn_nx rfl
theorem x148_135 (l0 : Value) (s0 : Int32) (s1 : Int32) (s2 : Nat) (s3 : Nat) (s4 : Nat) (H : HS) : rn 148 135 [l0] [.int s0, .int s1, .ref s2, .ref s3, .ref s4] H = pk 148 136 [l0] [.ref s3, .ref s4] (ast H 101 s2 s1 (.int (vp_nar .char s0))) := (rn_ev ..).trans (ev_pk rfl)
theorem x148_136 (l0 : Value) (s0 : Nat) (s1 : Nat) (H : HS) : rn 148 136 [l0] [.ref s0, .ref s1] H = rn 148 137 [l0] [.ref s0, .ref s0, .ref s1] H := rn_nx rfl
theorem x148_137 (l0 : Value) (s0 : Nat) (s1 : Nat) (s2 : Nat) (H : HS) : rn 148 137 [l0] [.ref s0, .ref s1, .ref s2] H = rn 148 139 [l0] [.int 11, .ref s0, .ref s1, .ref s2] H := rn_nx rfl
theorem x148_139 (l0 : Value) (s0 : Int32) (s1 : Nat) (s2 : Nat) (s3 : Nat) (H : HS) : rn 148 139 [l0] [.int s0, .ref s1, .ref s2, .ref s3] H = rn 148 141 [l0] [.int 99, .int s0, .ref s1, .ref s2, .ref s3] H := rn_nx rfl
theorem x148_141 (l0 : Value) (s0 : Int32) (s1 : Int32) (s2 : Nat) (s3 : Nat) (s4 : Nat) (H : HS) : rn 148 141 [l0] [.int s0, .int s1, .ref s2, .ref s3, .ref s4] H = pk 148 142 [l0] [.ref s3, .ref s4] (ast H 101 s2 s1 (.int (vp_nar .char s0))) := (rn_ev ..).trans (ev_pk rfl)
theorem x148_142 (l0 : Value) (s0 : Nat) (s1 : Nat) (H : HS) : rn 148 142 [l0] [.ref s0, .ref s1] H = rn 148 143 [l0] [.ref s0, .ref s0, .ref s1] H := rn_nx rfl
theorem x148_143 (l0 : Value) (s0 : Nat) (s1 : Nat) (s2 : Nat) (H : HS) : rn 148 143 [l0] [.ref s0, .ref s1, .ref s2] H = rn 148 145 [l0] [.int 12, .ref s0, .ref s1, .ref s2] H := rn_nx rfl
theorem x148_145 (l0 : Value) (s0 : Int32) (s1 : Nat) (s2 : Nat) (s3 : Nat) (H : HS) : rn 148 145 [l0] [.int s0, .ref s1, .ref s2, .ref s3] H = rn 148 147 [l0] [.int 107, .int s0, .ref s1, .ref s2, .ref s3] H := rn_nx rfl
theorem x148_147 (l0 : Value) (s0 : Int32) (s1 : Int32) (s2 : Nat) (s3 : Nat) (s4 : Nat) (H : HS) : rn 148 147 [l0] [.int s0, .int s1, .ref s2, .ref s3, .ref s4] H = pk 148 148 [l0] [.ref s3, .ref s4] (ast H 101 s2 s1 (.int (vp_nar .char s0))) := (rn_ev ..).trans (ev_pk rfl)
theorem x148_148 (l0 : Value) (s0 : Nat) (s1 : Nat) (H : HS) : rn 148 148 [l0] [.ref s0, .ref s1] H = rn 148 149 [l0] [.ref s0, .ref s0, .ref s1] H := rn_nx rfl
theorem x148_149 (l0 : Value) (s0 : Nat) (s1 : Nat) (s2 : Nat) (H : HS) : rn 148 149 [l0] [.ref s0, .ref s1, .ref s2] H = rn 148 151 [l0] [.int 13, .ref s0, .ref s1, .ref s2] H := rn_nx rfl
theorem x148_151 (l0 : Value) (s0 : Int32) (s1 : Nat) (s2 : Nat) (s3 : Nat) (H : HS) : rn 148 151 [l0] [.int s0, .ref s1, .ref s2, .ref s3] H = rn 148 153 [l0] [.int 115, .int s0, .ref s1, .ref s2, .ref s3] H := rn_nx rfl
theorem x148_153 (l0 : Value) (s0 : Int32) (s1 : Int32) (s2 : Nat) (s3 : Nat) (s4 : Nat) (H : HS) : rn 148 153 [l0] [.int s0, .int s1, .ref s2, .ref s3, .ref s4] H = pk 148 154 [l0] [.ref s3, .ref s4] (ast H 101 s2 s1 (.int (vp_nar .char s0))) := (rn_ev ..).trans (ev_pk rfl)
theorem x148_154 (l0 : Value) (s0 : Nat) (s1 : Nat) (H : HS) : rn 148 154 [l0] [.ref s0, .ref s1] H = rn 148 155 [l0] [.ref s0, .ref s0, .ref s1] H := rn_nx rfl
theorem x148_155 (l0 : Value) (s0 : Nat) (s1 : Nat) (s2 : Nat) (H : HS) : rn 148 155 [l0] [.ref s0, .ref s1, .ref s2] H = rn 148 157 [l0] [.int 14, .ref s0, .ref s1, .ref s2] H := rn_nx rfl
theorem x148_157 (l0 : Value) (s0 : Int32) (s1 : Nat) (s2 : Nat) (s3 : Nat) (H : HS) : rn 148 157 [l0] [.int s0, .ref s1, .ref s2, .ref s3] H = rn 148 159 [l0] [.int 32, .int s0, .ref s1, .ref s2, .ref s3] H := rn_nx rfl
theorem x148_159 (l0 : Value) (s0 : Int32) (s1 : Int32) (s2 : Nat) (s3 : Nat) (s4 : Nat) (H : HS) : rn 148 159 [l0] [.int s0, .int s1, .ref s2, .ref s3, .ref s4] H = pk 148 160 [l0] [.ref s3, .ref s4] (ast H 101 s2 s1 (.int (vp_nar .char s0))) := (rn_ev ..).trans (ev_pk rfl)
theorem x148_160 (l0 : Value) (s0 : Nat) (s1 : Nat) (H : HS) : rn 148 160 [l0] [.ref s0, .ref s1] H = rn 148 161 [l0] [.ref s0, .ref s0, .ref s1] H := rn_nx rfl
theorem x148_161 (l0 : Value) (s0 : Nat) (s1 : Nat) (s2 : Nat) (H : HS) : rn 148 161 [l0] [.ref s0, .ref s1, .ref s2] H = rn 148 163 [l0] [.int 15, .ref s0, .ref s1, .ref s2] H := rn_nx rfl
theorem x148_163 (l0 : Value) (s0 : Int32) (s1 : Nat) (s2 : Nat) (s3 : Nat) (H : HS) : rn 148 163 [l0] [.int s0, .ref s1, .ref s2, .ref s3] H = rn 148 165 [l0] [.int 116, .int s0, .ref s1, .ref s2, .ref s3] H := rn_nx rfl
theorem x148_165 (l0 : Value) (s0 : Int32) (s1 : Int32) (s2 : Nat) (s3 : Nat) (s4 : Nat) (H : HS) : rn 148 165 [l0] [.int s0, .int s1, .ref s2, .ref s3, .ref s4] H = pk 148 166 [l0] [.ref s3, .ref s4] (ast H 101 s2 s1 (.int (vp_nar .char s0))) := (rn_ev ..).trans (ev_pk rfl)
theorem x148_166 (l0 : Value) (s0 : Nat) (s1 : Nat) (H : HS) : rn 148 166 [l0] [.ref s0, .ref s1] H = rn 148 167 [l0] [.ref s0, .ref s0, .ref s1] H := rn_nx rfl
theorem x148_167 (l0 : Value) (s0 : Nat) (s1 : Nat) (s2 : Nat) (H : HS) : rn 148 167 [l0] [.ref s0, .ref s1, .ref s2] H = rn 148 169 [l0] [.int 16, .ref s0, .ref s1, .ref s2] H := rn_nx rfl
theorem x148_169 (l0 : Value) (s0 : Int32) (s1 : Nat) (s2 : Nat) (s3 : Nat) (H : HS) : rn 148 169 [l0] [.int s0, .ref s1, .ref s2, .ref s3] H = rn 148 171 [l0] [.int 114, .int s0, .ref s1, .ref s2, .ref s3] H := rn_nx rfl
theorem x148_171 (l0 : Value) (s0 : Int32) (s1 : Int32) (s2 : Nat) (s3 : Nat) (s4 : Nat) (H : HS) : rn 148 171 [l0] [.int s0, .int s1, .ref s2, .ref s3, .ref s4] H = pk 148 172 [l0] [.ref s3, .ref s4] (ast H 101 s2 s1 (.int (vp_nar .char s0))) := (rn_ev ..).trans (ev_pk rfl)
theorem x148_172 (l0 : Value) (s0 : Nat) (s1 : Nat) (H : HS) : rn 148 172 [l0] [.ref s0, .ref s1] H = rn 148 173 [l0] [.ref s0, .ref s0, .ref s1] H := rn_nx rfl
theorem x148_173 (l0 : Value) (s0 : Nat) (s1 : Nat) (s2 : Nat) (H : HS) : rn 148 173 [l0] [.ref s0, .ref s1, .ref s2] H = rn 148 175 [l0] [.int 17, .ref s0, .ref s1, .ref s2] H := rn_nx rfl
theorem x148_175 (l0 : Value) (s0 : Int32) (s1 : Nat) (s2 : Nat) (s3 : Nat) (H : HS) : rn 148 175 [l0] [.int s0, .ref s1, .ref s2, .ref s3] H = rn 148 177 [l0] [.int 97, .int s0, .ref s1, .ref s2, .ref s3] H := rn_nx rfl
theorem x148_177 (l0 : Value) (s0 : Int32) (s1 : Int32) (s2 : Nat) (s3 : Nat) (s4 : Nat) (H : HS) : rn 148 177 [l0] [.int s0, .int s1, .ref s2, .ref s3, .ref s4] H = pk 148 178 [l0] [.ref s3, .ref s4] (ast H 101 s2 s1 (.int (vp_nar .char s0))) := (rn_ev ..).trans (ev_pk rfl)
theorem x148_178 (l0 : Value) (s0 : Nat) (s1 : Nat) (H : HS) : rn 148 178 [l0] [.ref s0, .ref s1] H = rn 148 179 [l0] [.ref s0, .ref s0, .ref s1] H := rn_nx rfl
theorem x148_179 (l0 : Value) (s0 : Nat) (s1 : Nat) (s2 : Nat) (H : HS) : rn 148 179 [l0] [.ref s0, .ref s1, .ref s2] H = rn 148 181 [l0] [.int 18, .ref s0, .ref s1, .ref s2] H := rn_nx rfl
theorem x148_181 (l0 : Value) (s0 : Int32) (s1 : Nat) (s2 : Nat) (s3 : Nat) (H : HS) : rn 148 181 [l0] [.int s0, .ref s1, .ref s2, .ref s3] H = rn 148 183 [l0] [.int 105, .int s0, .ref s1, .ref s2, .ref s3] H := rn_nx rfl
theorem x148_183 (l0 : Value) (s0 : Int32) (s1 : Int32) (s2 : Nat) (s3 : Nat) (s4 : Nat) (H : HS) : rn 148 183 [l0] [.int s0, .int s1, .ref s2, .ref s3, .ref s4] H = pk 148 184 [l0] [.ref s3, .ref s4] (ast H 101 s2 s1 (.int (vp_nar .char s0))) := (rn_ev ..).trans (ev_pk rfl)
theorem x148_184 (l0 : Value) (s0 : Nat) (s1 : Nat) (H : HS) : rn 148 184 [l0] [.ref s0, .ref s1] H = rn 148 185 [l0] [.ref s0, .ref s0, .ref s1] H := rn_nx rfl
theorem x148_185 (l0 : Value) (s0 : Nat) (s1 : Nat) (s2 : Nat) (H : HS) : rn 148 185 [l0] [.ref s0, .ref s1, .ref s2] H = rn 148 187 [l0] [.int 19, .ref s0, .ref s1, .ref s2] H := rn_nx rfl
theorem x148_187 (l0 : Value) (s0 : Int32) (s1 : Nat) (s2 : Nat) (s3 : Nat) (H : HS) : rn 148 187 [l0] [.int s0, .ref s1, .ref s2, .ref s3] H = rn 148 189 [l0] [.int 110, .int s0, .ref s1, .ref s2, .ref s3] H := rn_nx rfl
theorem x148_189 (l0 : Value) (s0 : Int32) (s1 : Int32) (s2 : Nat) (s3 : Nat) (s4 : Nat) (H : HS) : rn 148 189 [l0] [.int s0, .int s1, .ref s2, .ref s3, .ref s4] H = pk 148 190 [l0] [.ref s3, .ref s4] (ast H 101 s2 s1 (.int (vp_nar .char s0))) := (rn_ev ..).trans (ev_pk rfl)
theorem x148_190 (l0 : Value) (s0 : Nat) (s1 : Nat) (H : HS) : rn 148 190 [l0] [.ref s0, .ref s1] H = rn 148 191 [l0] [.ref s0, .ref s0, .ref s1] H := rn_nx rfl
theorem x148_191 (l0 : Value) (s0 : Nat) (s1 : Nat) (s2 : Nat) (H : HS) : rn 148 191 [l0] [.ref s0, .ref s1, .ref s2] H = rn 148 193 [l0] [.int 20, .ref s0, .ref s1, .ref s2] H := rn_nx rfl
theorem x148_193 (l0 : Value) (s0 : Int32) (s1 : Nat) (s2 : Nat) (s3 : Nat) (H : HS) : rn 148 193 [l0] [.int s0, .ref s1, .ref s2, .ref s3] H = rn 148 195 [l0] [.int 32, .int s0, .ref s1, .ref s2, .ref s3] H := rn_nx rfl
theorem x148_195 (l0 : Value) (s0 : Int32) (s1 : Int32) (s2 : Nat) (s3 : Nat) (s4 : Nat) (H : HS) : rn 148 195 [l0] [.int s0, .int s1, .ref s2, .ref s3, .ref s4] H = pk 148 196 [l0] [.ref s3, .ref s4] (ast H 101 s2 s1 (.int (vp_nar .char s0))) := (rn_ev ..).trans (ev_pk rfl)
theorem x148_196 (l0 : Value) (s0 : Nat) (s1 : Nat) (H : HS) : rn 148 196 [l0] [.ref s0, .ref s1] H = rn 148 197 [l0] [.ref s0, .ref s0, .ref s1] H := rn_nx rfl
theorem x148_197 (l0 : Value) (s0 : Nat) (s1 : Nat) (s2 : Nat) (H : HS) : rn 148 197 [l0] [.ref s0, .ref s1, .ref s2] H = rn 148 199 [l0] [.int 21, .ref s0, .ref s1, .ref s2] H := rn_nx rfl
theorem x148_199 (l0 : Value) (s0 : Int32) (s1 : Nat) (s2 : Nat) (s3 : Nat) (H : HS) : rn 148 199 [l0] [.int s0, .ref s1, .ref s2, .ref s3] H = rn 148 201 [l0] [.int 104, .int s0, .ref s1, .ref s2, .ref s3] H := rn_nx rfl
theorem x148_201 (l0 : Value) (s0 : Int32) (s1 : Int32) (s2 : Nat) (s3 : Nat) (s4 : Nat) (H : HS) : rn 148 201 [l0] [.int s0, .int s1, .ref s2, .ref s3, .ref s4] H = pk 148 202 [l0] [.ref s3, .ref s4] (ast H 101 s2 s1 (.int (vp_nar .char s0))) := (rn_ev ..).trans (ev_pk rfl)
theorem x148_202 (l0 : Value) (s0 : Nat) (s1 : Nat) (H : HS) : rn 148 202 [l0] [.ref s0, .ref s1] H = rn 148 203 [l0] [.ref s0, .ref s0, .ref s1] H := rn_nx rfl
theorem x148_203 (l0 : Value) (s0 : Nat) (s1 : Nat) (s2 : Nat) (H : HS) : rn 148 203 [l0] [.ref s0, .ref s1, .ref s2] H = rn 148 205 [l0] [.int 22, .ref s0, .ref s1, .ref s2] H := rn_nx rfl
theorem x148_205 (l0 : Value) (s0 : Int32) (s1 : Nat) (s2 : Nat) (s3 : Nat) (H : HS) : rn 148 205 [l0] [.int s0, .ref s1, .ref s2, .ref s3] H = rn 148 207 [l0] [.int 111, .int s0, .ref s1, .ref s2, .ref s3] H := rn_nx rfl
theorem x148_207 (l0 : Value) (s0 : Int32) (s1 : Int32) (s2 : Nat) (s3 : Nat) (s4 : Nat) (H : HS) : rn 148 207 [l0] [.int s0, .int s1, .ref s2, .ref s3, .ref s4] H = pk 148 208 [l0] [.ref s3, .ref s4] (ast H 101 s2 s1 (.int (vp_nar .char s0))) := (rn_ev ..).trans (ev_pk rfl)
theorem x148_208 (l0 : Value) (s0 : Nat) (s1 : Nat) (H : HS) : rn 148 208 [l0] [.ref s0, .ref s1] H = rn 148 209 [l0] [.ref s0, .ref s0, .ref s1] H := rn_nx rfl
theorem x148_209 (l0 : Value) (s0 : Nat) (s1 : Nat) (s2 : Nat) (H : HS) : rn 148 209 [l0] [.ref s0, .ref s1, .ref s2] H = rn 148 211 [l0] [.int 23, .ref s0, .ref s1, .ref s2] H := rn_nx rfl
theorem x148_211 (l0 : Value) (s0 : Int32) (s1 : Nat) (s2 : Nat) (s3 : Nat) (H : HS) : rn 148 211 [l0] [.int s0, .ref s1, .ref s2, .ref s3] H = rn 148 213 [l0] [.int 108, .int s0, .ref s1, .ref s2, .ref s3] H := rn_nx rfl
theorem x148_213 (l0 : Value) (s0 : Int32) (s1 : Int32) (s2 : Nat) (s3 : Nat) (s4 : Nat) (H : HS) : rn 148 213 [l0] [.int s0, .int s1, .ref s2, .ref s3, .ref s4] H = pk 148 214 [l0] [.ref s3, .ref s4] (ast H 101 s2 s1 (.int (vp_nar .char s0))) := (rn_ev ..).trans (ev_pk rfl)
theorem x148_214 (l0 : Value) (s0 : Nat) (s1 : Nat) (H : HS) : rn 148 214 [l0] [.ref s0, .ref s1] H = rn 148 215 [l0] [.ref s0, .ref s0, .ref s1] H := rn_nx rfl
theorem x148_215 (l0 : Value) (s0 : Nat) (s1 : Nat) (s2 : Nat) (H : HS) : rn 148 215 [l0] [.ref s0, .ref s1, .ref s2] H = rn 148 217 [l0] [.int 24, .ref s0, .ref s1, .ref s2] H := rn_nx rfl
theorem x148_217 (l0 : Value) (s0 : Int32) (s1 : Nat) (s2 : Nat) (s3 : Nat) (H : HS) : rn 148 217 [l0] [.int s0, .ref s1, .ref s2, .ref s3] H = rn 148 219 [l0] [.int 100, .int s0, .ref s1, .ref s2, .ref s3] H := rn_nx rfl
theorem x148_219 (l0 : Value) (s0 : Int32) (s1 : Int32) (s2 : Nat) (s3 : Nat) (s4 : Nat) (H : HS) : rn 148 219 [l0] [.int s0, .int s1, .ref s2, .ref s3, .ref s4] H = pk 148 220 [l0] [.ref s3, .ref s4] (ast H 101 s2 s1 (.int (vp_nar .char s0))) := (rn_ev ..).trans (ev_pk rfl)
theorem x148_220 (l0 : Value) (s0 : Nat) (s1 : Nat) (H : HS) : rn 148 220 [l0] [.ref s0, .ref s1] H = rn 148 221 [l0] [.ref s0, .ref s0, .ref s1] H := rn_nx rfl
theorem x148_221 (l0 : Value) (s0 : Nat) (s1 : Nat) (s2 : Nat) (H : HS) : rn 148 221 [l0] [.ref s0, .ref s1, .ref s2] H = rn 148 223 [l0] [.int 25, .ref s0, .ref s1, .ref s2] H := rn_nx rfl
theorem x148_223 (l0 : Value) (s0 : Int32) (s1 : Nat) (s2 : Nat) (s3 : Nat) (H : HS) : rn 148 223 [l0] [.int s0, .ref s1, .ref s2, .ref s3] H = rn 148 225 [l0] [.int 32, .int s0, .ref s1, .ref s2, .ref s3] H := rn_nx rfl
theorem x148_225 (l0 : Value) (s0 : Int32) (s1 : Int32) (s2 : Nat) (s3 : Nat) (s4 : Nat) (H : HS) : rn 148 225 [l0] [.int s0, .int s1, .ref s2, .ref s3, .ref s4] H = pk 148 226 [l0] [.ref s3, .ref s4] (ast H 101 s2 s1 (.int (vp_nar .char s0))) := (rn_ev ..).trans (ev_pk rfl)
theorem x148_226 (l0 : Value) (s0 : Nat) (s1 : Nat) (H : HS) : rn 148 226 [l0] [.ref s0, .ref s1] H = rn 148 227 [l0] [.ref s0, .ref s0, .ref s1] H := rn_nx rfl
theorem x148_227 (l0 : Value) (s0 : Nat) (s1 : Nat) (s2 : Nat) (H : HS) : rn 148 227 [l0] [.ref s0, .ref s1, .ref s2] H = rn 148 229 [l0] [.int 26, .ref s0, .ref s1, .ref s2] H := rn_nx rfl
theorem x148_229 (l0 : Value) (s0 : Int32) (s1 : Nat) (s2 : Nat) (s3 : Nat) (H : HS) : rn 148 229 [l0] [.int s0, .ref s1, .ref s2, .ref s3] H = rn 148 231 [l0] [.int 103, .int s0, .ref s1, .ref s2, .ref s3] H := rn_nx rfl
theorem x148_231 (l0 : Value) (s0 : Int32) (s1 : Int32) (s2 : Nat) (s3 : Nat) (s4 : Nat) (H : HS) : rn 148 231 [l0] [.int s0, .int s1, .ref s2, .ref s3, .ref s4] H = pk 148 232 [l0] [.ref s3, .ref s4] (ast H 101 s2 s1 (.int (vp_nar .char s0))) := (rn_ev ..).trans (ev_pk rfl)
theorem x148_232 (l0 : Value) (s0 : Nat) (s1 : Nat) (H : HS) : rn 148 232 [l0] [.ref s0, .ref s1] H = rn 148 233 [l0] [.ref s0, .ref s0, .ref s1] H := rn_nx rfl
theorem x148_233 (l0 : Value) (s0 : Nat) (s1 : Nat) (s2 : Nat) (H : HS) : rn 148 233 [l0] [.ref s0, .ref s1, .ref s2] H = rn 148 235 [l0] [.int 27, .ref s0, .ref s1, .ref s2] H := rn_nx rfl
theorem x148_235 (l0 : Value) (s0 : Int32) (s1 : Nat) (s2 : Nat) (s3 : Nat) (H : HS) : rn 148 235 [l0] [.int s0, .ref s1, .ref s2, .ref s3] H = rn 148 237 [l0] [.int 111, .int s0, .ref s1, .ref s2, .ref s3] H := rn_nx rfl
theorem x148_237 (l0 : Value) (s0 : Int32) (s1 : Int32) (s2 : Nat) (s3 : Nat) (s4 : Nat) (H : HS) : rn 148 237 [l0] [.int s0, .int s1, .ref s2, .ref s3, .ref s4] H = pk 148 238 [l0] [.ref s3, .ref s4] (ast H 101 s2 s1 (.int (vp_nar .char s0))) := (rn_ev ..).trans (ev_pk rfl)
theorem x148_238 (l0 : Value) (s0 : Nat) (s1 : Nat) (H : HS) : rn 148 238 [l0] [.ref s0, .ref s1] H = rn 148 239 [l0] [.ref s0, .ref s0, .ref s1] H := rn_nx rfl
theorem x148_239 (l0 : Value) (s0 : Nat) (s1 : Nat) (s2 : Nat) (H : HS) : rn 148 239 [l0] [.ref s0, .ref s1, .ref s2] H = rn 148 241 [l0] [.int 28, .ref s0, .ref s1, .ref s2] H := rn_nx rfl
theorem x148_241 (l0 : Value) (s0 : Int32) (s1 : Nat) (s2 : Nat) (s3 : Nat) (H : HS) : rn 148 241 [l0] [.int s0, .ref s1, .ref s2, .ref s3] H = rn 148 243 [l0] [.int 32, .int s0, .ref s1, .ref s2, .ref s3] H := rn_nx rfl
theorem x148_243 (l0 : Value) (s0 : Int32) (s1 : Int32) (s2 : Nat) (s3 : Nat) (s4 : Nat) (H : HS) : rn 148 243 [l0] [.int s0, .int s1, .ref s2, .ref s3, .ref s4] H = pk 148 244 [l0] [.ref s3, .ref s4] (ast H 101 s2 s1 (.int (vp_nar .char s0))) := (rn_ev ..).trans (ev_pk rfl)
theorem x148_244 (l0 : Value) (s0 : Nat) (s1 : Nat) (H : HS) : rn 148 244 [l0] [.ref s0, .ref s1] H = rn 148 245 [l0] [.ref s0, .ref s0, .ref s1] H := rn_nx rfl
theorem x148_245 (l0 : Value) (s0 : Nat) (s1 : Nat) (s2 : Nat) (H : HS) : rn 148 245 [l0] [.ref s0, .ref s1, .ref s2] H = rn 148 247 [l0] [.int 29, .ref s0, .ref s1, .ref s2] H := rn_nx rfl
theorem x148_247 (l0 : Value) (s0 : Int32) (s1 : Nat) (s2 : Nat) (s3 : Nat) (H : HS) : rn 148 247 [l0] [.int s0, .ref s1, .ref s2, .ref s3] H = rn 148 249 [l0] [.int 99, .int s0, .ref s1, .ref s2, .ref s3] H := rn_nx rfl
theorem x148_249 (l0 : Value) (s0 : Int32) (s1 : Int32) (s2 : Nat) (s3 : Nat) (s4 : Nat) (H : HS) : rn 148 249 [l0] [.int s0, .int s1, .ref s2, .ref s3, .ref s4] H = pk 148 250 [l0] [.ref s3, .ref s4] (ast H 101 s2 s1 (.int (vp_nar .char s0))) := (rn_ev ..).trans (ev_pk rfl)
theorem x148_250 (l0 : Value) (s0 : Nat) (s1 : Nat) (H : HS) : rn 148 250 [l0] [.ref s0, .ref s1] H = rn 148 251 [l0] [.ref s0, .ref s0, .ref s1] H := rn_nx rfl
theorem x148_251 (l0 : Value) (s0 : Nat) (s1 : Nat) (s2 : Nat) (H : HS) : rn 148 251 [l0] [.ref s0, .ref s1, .ref s2] H = rn 148 253 [l0] [.int 30, .ref s0, .ref s1, .ref s2] H := rn_nx rfl
theorem x148_253 (l0 : Value) (s0 : Int32) (s1 : Nat) (s2 : Nat) (s3 : Nat) (H : HS) : rn 148 253 [l0] [.int s0, .ref s1, .ref s2, .ref s3] H = rn 148 255 [l0] [.int 97, .int s0, .ref s1, .ref s2, .ref s3] H := rn_nx rfl
theorem x148_255 (l0 : Value) (s0 : Int32) (s1 : Int32) (s2 : Nat) (s3 : Nat) (s4 : Nat) (H : HS) : rn 148 255 [l0] [.int s0, .int s1, .ref s2, .ref s3, .ref s4] H = pk 148 256 [l0] [.ref s3, .ref s4] (ast H 101 s2 s1 (.int (vp_nar .char s0))) := (rn_ev ..).trans (ev_pk rfl)
theorem x148_256 (l0 : Value) (s0 : Nat) (s1 : Nat) (H : HS) : rn 148 256 [l0] [.ref s0, .ref s1] H = rn 148 257 [l0] [.ref s0, .ref s0, .ref s1] H := rn_nx rfl
theorem x148_257 (l0 : Value) (s0 : Nat) (s1 : Nat) (s2 : Nat) (H : HS) : rn 148 257 [l0] [.ref s0, .ref s1, .ref s2] H = rn 148 259 [l0] [.int 31, .ref s0, .ref s1, .ref s2] H := rn_nx rfl
theorem x148_259 (l0 : Value) (s0 : Int32) (s1 : Nat) (s2 : Nat) (s3 : Nat) (H : HS) : rn 148 259 [l0] [.int s0, .ref s1, .ref s2, .ref s3] H = rn 148 261 [l0] [.int 110, .int s0, .ref s1, .ref s2, .ref s3] H := rn_nx rfl
theorem x148_261 (l0 : Value) (s0 : Int32) (s1 : Int32) (s2 : Nat) (s3 : Nat) (s4 : Nat) (H : HS) : rn 148 261 [l0] [.int s0, .int s1, .ref s2, .ref s3, .ref s4] H = pk 148 262 [l0] [.ref s3, .ref s4] (ast H 101 s2 s1 (.int (vp_nar .char s0))) := (rn_ev ..).trans (ev_pk rfl)
theorem x148_262 (l0 : Value) (s0 : Nat) (s1 : Nat) (H : HS) : rn 148 262 [l0] [.ref s0, .ref s1] H = rn 148 263 [l0] [.ref s0, .ref s0, .ref s1] H := rn_nx rfl
theorem x148_263 (l0 : Value) (s0 : Nat) (s1 : Nat) (s2 : Nat) (H : HS) : rn 148 263 [l0] [.ref s0, .ref s1, .ref s2] H = rn 148 265 [l0] [.int 32, .ref s0, .ref s1, .ref s2] H := rn_nx rfl
theorem x148_265 (l0 : Value) (s0 : Int32) (s1 : Nat) (s2 : Nat) (s3 : Nat) (H : HS) : rn 148 265 [l0] [.int s0, .ref s1, .ref s2, .ref s3] H = rn 148 267 [l0] [.int 99, .int s0, .ref s1, .ref s2, .ref s3] H := rn_nx rfl
theorem x148_267 (l0 : Value) (s0 : Int32) (s1 : Int32) (s2 : Nat) (s3 : Nat) (s4 : Nat) (H : HS) : rn 148 267 [l0] [.int s0, .int s1, .ref s2, .ref s3, .ref s4] H = pk 148 268 [l0] [.ref s3, .ref s4] (ast H 101 s2 s1 (.int (vp_nar .char s0))) := (rn_ev ..).trans (ev_pk rfl)
theorem x148_268 (l0 : Value) (s0 : Nat) (s1 : Nat) (H : HS) : rn 148 268 [l0] [.ref s0, .ref s1] H = rn 148 269 [l0] [.ref s0, .ref s0, .ref s1] H := rn_nx rfl
theorem x148_269 (l0 : Value) (s0 : Nat) (s1 : Nat) (s2 : Nat) (H : HS) : rn 148 269 [l0] [.ref s0, .ref s1, .ref s2] H = rn 148 271 [l0] [.int 33, .ref s0, .ref s1, .ref s2] H := rn_nx rfl
theorem x148_271 (l0 : Value) (s0 : Int32) (s1 : Nat) (s2 : Nat) (s3 : Nat) (H : HS) : rn 148 271 [l0] [.int s0, .ref s1, .ref s2, .ref s3] H = rn 148 273 [l0] [.int 101, .int s0, .ref s1, .ref s2, .ref s3] H := rn_nx rfl
theorem x148_273 (l0 : Value) (s0 : Int32) (s1 : Int32) (s2 : Nat) (s3 : Nat) (s4 : Nat) (H : HS) : rn 148 273 [l0] [.int s0, .int s1, .ref s2, .ref s3, .ref s4] H = pk 148 274 [l0] [.ref s3, .ref s4] (ast H 101 s2 s1 (.int (vp_nar .char s0))) := (rn_ev ..).trans (ev_pk rfl)
theorem x148_274 (l0 : Value) (s0 : Nat) (s1 : Nat) (H : HS) : rn 148 274 [l0] [.ref s0, .ref s1] H = rn 148 275 [l0] [.ref s0, .ref s0, .ref s1] H := rn_nx rfl
theorem x148_275 (l0 : Value) (s0 : Nat) (s1 : Nat) (s2 : Nat) (H : HS) : rn 148 275 [l0] [.ref s0, .ref s1, .ref s2] H = rn 148 277 [l0] [.int 34, .ref s0, .ref s1, .ref s2] H := rn_nx rfl
theorem x148_277 (l0 : Value) (s0 : Int32) (s1 : Nat) (s2 : Nat) (s3 : Nat) (H : HS) : rn 148 277 [l0] [.int s0, .ref s1, .ref s2, .ref s3] H = rn 148 279 [l0] [.int 108, .int s0, .ref s1, .ref s2, .ref s3] H := rn_nx rfl
theorem x148_279 (l0 : Value) (s0 : Int32) (s1 : Int32) (s2 : Nat) (s3 : Nat) (s4 : Nat) (H : HS) : rn 148 279 [l0] [.int s0, .int s1, .ref s2, .ref s3, .ref s4] H = pk 148 280 [l0] [.ref s3, .ref s4] (ast H 101 s2 s1 (.int (vp_nar .char s0))) := (rn_ev ..).trans (ev_pk rfl)
theorem x148_280 (l0 : Value) (s0 : Nat) (s1 : Nat) (H : HS) : rn 148 280 [l0] [.ref s0, .ref s1] H = rn 148 281 [l0] [.ref s0, .ref s0, .ref s1] H := rn_nx rfl
theorem x148_281 (l0 : Value) (s0 : Nat) (s1 : Nat) (s2 : Nat) (H : HS) : rn 148 281 [l0] [.ref s0, .ref s1, .ref s2] H = rn 148 283 [l0] [.int 35, .ref s0, .ref s1, .ref s2] H := rn_nx rfl
theorem x148_283 (l0 : Value) (s0 : Int32) (s1 : Nat) (s2 : Nat) (s3 : Nat) (H : HS) : rn 148 283 [l0] [.int s0, .ref s1, .ref s2, .ref s3] H = rn 148 285 [l0] [.int 32, .int s0, .ref s1, .ref s2, .ref s3] H := rn_nx rfl
theorem x148_285 (l0 : Value) (s0 : Int32) (s1 : Int32) (s2 : Nat) (s3 : Nat) (s4 : Nat) (H : HS) : rn 148 285 [l0] [.int s0, .int s1, .ref s2, .ref s3, .ref s4] H = pk 148 286 [l0] [.ref s3, .ref s4] (ast H 101 s2 s1 (.int (vp_nar .char s0))) := (rn_ev ..).trans (ev_pk rfl)
theorem x148_286 (l0 : Value) (s0 : Nat) (s1 : Nat) (H : HS) : rn 148 286 [l0] [.ref s0, .ref s1] H = rn 148 287 [l0] [.ref s0, .ref s0, .ref s1] H := rn_nx rfl
theorem x148_287 (l0 : Value) (s0 : Nat) (s1 : Nat) (s2 : Nat) (H : HS) : rn 148 287 [l0] [.ref s0, .ref s1, .ref s2] H = rn 148 289 [l0] [.int 36, .ref s0, .ref s1, .ref s2] H := rn_nx rfl
theorem x148_289 (l0 : Value) (s0 : Int32) (s1 : Nat) (s2 : Nat) (s3 : Nat) (H : HS) : rn 148 289 [l0] [.int s0, .ref s1, .ref s2, .ref s3] H = rn 148 291 [l0] [.int 119, .int s0, .ref s1, .ref s2, .ref s3] H := rn_nx rfl
theorem x148_291 (l0 : Value) (s0 : Int32) (s1 : Int32) (s2 : Nat) (s3 : Nat) (s4 : Nat) (H : HS) : rn 148 291 [l0] [.int s0, .int s1, .ref s2, .ref s3, .ref s4] H = pk 148 292 [l0] [.ref s3, .ref s4] (ast H 101 s2 s1 (.int (vp_nar .char s0))) := (rn_ev ..).trans (ev_pk rfl)
theorem x148_292 (l0 : Value) (s0 : Nat) (s1 : Nat) (H : HS) : rn 148 292 [l0] [.ref s0, .ref s1] H = rn 148 293 [l0] [.ref s0, .ref s0, .ref s1] H := rn_nx rfl
theorem x148_293 (l0 : Value) (s0 : Nat) (s1 : Nat) (s2 : Nat) (H : HS) : rn 148 293 [l0] [.ref s0, .ref s1, .ref s2] H = rn 148 295 [l0] [.int 37, .ref s0, .ref s1, .ref s2] H := rn_nx rfl
theorem x148_295 (l0 : Value) (s0 : Int32) (s1 : Nat) (s2 : Nat) (s3 : Nat) (H : HS) : rn 148 295 [l0] [.int s0, .ref s1, .ref s2, .ref s3] H = rn 148 297 [l0] [.int 97, .int s0, .ref s1, .ref s2, .ref s3] H := rn_nx rfl
theorem x148_297 (l0 : Value) (s0 : Int32) (s1 : Int32) (s2 : Nat) (s3 : Nat) (s4 : Nat) (H : HS) : rn 148 297 [l0] [.int s0, .int s1, .ref s2, .ref s3, .ref s4] H = pk 148 298 [l0] [.ref s3, .ref s4] (ast H 101 s2 s1 (.int (vp_nar .char s0))) := (rn_ev ..).trans (ev_pk rfl)
theorem x148_298 (l0 : Value) (s0 : Nat) (s1 : Nat) (H : HS) : rn 148 298 [l0] [.ref s0, .ref s1] H = rn 148 299 [l0] [.ref s0, .ref s0, .ref s1] H := rn_nx rfl
theorem x148_299 (l0 : Value) (s0 : Nat) (s1 : Nat) (s2 : Nat) (H : HS) : rn 148 299 [l0] [.ref s0, .ref s1, .ref s2] H = rn 148 301 [l0] [.int 38, .ref s0, .ref s1, .ref s2] H := rn_nx rfl
theorem x148_301 (l0 : Value) (s0 : Int32) (s1 : Nat) (s2 : Nat) (s3 : Nat) (H : HS) : rn 148 301 [l0] [.int s0, .ref s1, .ref s2, .ref s3] H = rn 148 303 [l0] [.int 105, .int s0, .ref s1, .ref s2, .ref s3] H := rn_nx rfl
theorem x148_303 (l0 : Value) (s0 : Int32) (s1 : Int32) (s2 : Nat) (s3 : Nat) (s4 : Nat) (H : HS) : rn 148 303 [l0] [.int s0, .int s1, .ref s2, .ref s3, .ref s4] H = pk 148 304 [l0] [.ref s3, .ref s4] (ast H 101 s2 s1 (.int (vp_nar .char s0))) := (rn_ev ..).trans (ev_pk rfl)
theorem x148_304 (l0 : Value) (s0 : Nat) (s1 : Nat) (H : HS) : rn 148 304 [l0] [.ref s0, .ref s1] H = rn 148 305 [l0] [.ref s0, .ref s0, .ref s1] H := rn_nx rfl
theorem x148_305 (l0 : Value) (s0 : Nat) (s1 : Nat) (s2 : Nat) (H : HS) : rn 148 305 [l0] [.ref s0, .ref s1, .ref s2] H = rn 148 307 [l0] [.int 39, .ref s0, .ref s1, .ref s2] H := rn_nx rfl
theorem x148_307 (l0 : Value) (s0 : Int32) (s1 : Nat) (s2 : Nat) (s3 : Nat) (H : HS) : rn 148 307 [l0] [.int s0, .ref s1, .ref s2, .ref s3] H = rn 148 309 [l0] [.int 116, .int s0, .ref s1, .ref s2, .ref s3] H := rn_nx rfl
theorem x148_309 (l0 : Value) (s0 : Int32) (s1 : Int32) (s2 : Nat) (s3 : Nat) (s4 : Nat) (H : HS) : rn 148 309 [l0] [.int s0, .int s1, .ref s2, .ref s3, .ref s4] H = pk 148 310 [l0] [.ref s3, .ref s4] (ast H 101 s2 s1 (.int (vp_nar .char s0))) := (rn_ev ..).trans (ev_pk rfl)
theorem x148_310 (l0 : Value) (s0 : Nat) (s1 : Nat) (H : HS) : rn 148 310 [l0] [.ref s0, .ref s1] H = rn 148 311 [l0] [.ref s0, .ref s0, .ref s1] H := rn_nx rfl
theorem x148_311 (l0 : Value) (s0 : Nat) (s1 : Nat) (s2 : Nat) (H : HS) : rn 148 311 [l0] [.ref s0, .ref s1, .ref s2] H = rn 148 313 [l0] [.int 40, .ref s0, .ref s1, .ref s2] H := rn_nx rfl
theorem x148_313 (l0 : Value) (s0 : Int32) (s1 : Nat) (s2 : Nat) (s3 : Nat) (H : HS) : rn 148 313 [l0] [.int s0, .ref s1, .ref s2, .ref s3] H = rn 148 315 [l0] [.int 32, .int s0, .ref s1, .ref s2, .ref s3] H := rn_nx rfl
theorem x148_315 (l0 : Value) (s0 : Int32) (s1 : Int32) (s2 : Nat) (s3 : Nat) (s4 : Nat) (H : HS) : rn 148 315 [l0] [.int s0, .int s1, .ref s2, .ref s3, .ref s4] H = pk 148 316 [l0] [.ref s3, .ref s4] (ast H 101 s2 s1 (.int (vp_nar .char s0))) := (rn_ev ..).trans (ev_pk rfl)
theorem x148_316 (l0 : Value) (s0 : Nat) (s1 : Nat) (H : HS) : rn 148 316 [l0] [.ref s0, .ref s1] H = pk 148 319 [l0] [] (pfd H true 5 14 s1 (.ref s0)) := (rn_ev ..).trans (ev_pk rfl)
theorem x148_319 (l0 : Nat) (H : HS) : rn 148 319 [.ref l0] [] H = rn 148 320 [.ref l0] [.ref l0] H := rn_nx rfl
theorem x148_320 (l0 : Value) (s0 : Nat) (H : HS) : rn 148 320 [l0] [.ref s0] H = rn 148 322 [l0] [.int 8, .ref s0] H := rn_nx rfl
theorem x148_322 (l0 : Value) (s0 : Int32) (s1 : Nat) (H : HS) : rn 148 322 [l0] [.int s0, .ref s1] H = if s0 < 0 ∨ 100000 < s0.toNatClampNeg then none else rn 148 324 [l0] [.ref H.2.1, .ref s1] (hsn H (100, List.replicate s0.toNatClampNeg (.int 0)) s0.toNatClampNeg) := (rn_ev ..).trans (ev_if rfl)
theorem x148_324 (l0 : Value) (s0 : Nat) (s1 : Nat) (H : HS) : rn 148 324 [l0] [.ref s0, .ref s1] H = rn 148 325 [l0] [.ref s0, .ref s0, .ref s1] H := rn_nx rfl
theorem x148_325 (l0 : Value) (s0 : Nat) (s1 : Nat) (s2 : Nat) (H : HS) : rn 148 325 [l0] [.ref s0, .ref s1, .ref s2] H = rn 148 326 [l0] [.int 0, .ref s0, .ref s1, .ref s2] H := rn_nx rfl
theorem x148_326 (l0 : Value) (s0 : Int32) (s1 : Nat) (s2 : Nat) (s3 : Nat) (H : HS) : rn 148 326 [l0] [.int s0, .ref s1, .ref s2, .ref s3] H = rn 148 327 [l0] [.int 0, .int s0, .ref s1, .ref s2, .ref s3] H := rn_nx rfl
theorem x148_327 (l0 : Value) (s0 : Int32) (s1 : Int32) (s2 : Nat) (s3 : Nat) (s4 : Nat) (H : HS) : rn 148 327 [l0] [.int s0, .int s1, .ref s2, .ref s3, .ref s4] H = pk 148 328 [l0] [.ref s3, .ref s4] (ast H 100 s2 s1 (.int s0)) := (rn_ev ..).trans (ev_pk rfl)
theorem x148_328 (l0 : Value) (s0 : Nat) (s1 : Nat) (H : HS) : rn 148 328 [l0] [.ref s0, .ref s1] H = rn 148 329 [l0] [.ref s0, .ref s0, .ref s1] H := rn_nx rfl
theorem x148_329 (l0 : Value) (s0 : Nat) (s1 : Nat) (s2 : Nat) (H : HS) : rn 148 329 [l0] [.ref s0, .ref s1, .ref s2] H = rn 148 330 [l0] [.int 1, .ref s0, .ref s1, .ref s2] H := rn_nx rfl
theorem x148_330 (l0 : Value) (s0 : Int32) (s1 : Nat) (s2 : Nat) (s3 : Nat) (H : HS) : rn 148 330 [l0] [.int s0, .ref s1, .ref s2, .ref s3] H = rn 148 332 [l0] [.int 8, .int s0, .ref s1, .ref s2, .ref s3] H := rn_nx rfl
theorem x148_332 (l0 : Value) (s0 : Int32) (s1 : Int32) (s2 : Nat) (s3 : Nat) (s4 : Nat) (H : HS) : rn 148 332 [l0] [.int s0, .int s1, .ref s2, .ref s3, .ref s4] H = pk 148 333 [l0] [.ref s3, .ref s4] (ast H 100 s2 s1 (.int s0)) := (rn_ev ..).trans (ev_pk rfl)
theorem x148_333 (l0 : Value) (s0 : Nat) (s1 : Nat) (H : HS) : rn 148 333 [l0] [.ref s0, .ref s1] H = rn 148 334 [l0] [.ref s0, .ref s0, .ref s1] H := rn_nx rfl
theorem x148_334 (l0 : Value) (s0 : Nat) (s1 : Nat) (s2 : Nat) (H : HS) : rn 148 334 [l0] [.ref s0, .ref s1, .ref s2] H = rn 148 335 [l0] [.int 2, .ref s0, .ref s1, .ref s2] H := rn_nx rfl
theorem x148_335 (l0 : Value) (s0 : Int32) (s1 : Nat) (s2 : Nat) (s3 : Nat) (H : HS) : rn 148 335 [l0] [.int s0, .ref s1, .ref s2, .ref s3] H = rn 148 337 [l0] [.int 15, .int s0, .ref s1, .ref s2, .ref s3] H := rn_nx rfl
theorem x148_337 (l0 : Value) (s0 : Int32) (s1 : Int32) (s2 : Nat) (s3 : Nat) (s4 : Nat) (H : HS) : rn 148 337 [l0] [.int s0, .int s1, .ref s2, .ref s3, .ref s4] H = pk 148 338 [l0] [.ref s3, .ref s4] (ast H 100 s2 s1 (.int s0)) := (rn_ev ..).trans (ev_pk rfl)
theorem x148_338 (l0 : Value) (s0 : Nat) (s1 : Nat) (H : HS) : rn 148 338 [l0] [.ref s0, .ref s1] H = rn 148 339 [l0] [.ref s0, .ref s0, .ref s1] H := rn_nx rfl
theorem x148_339 (l0 : Value) (s0 : Nat) (s1 : Nat) (s2 : Nat) (H : HS) : rn 148 339 [l0] [.ref s0, .ref s1, .ref s2] H = rn 148 340 [l0] [.int 3, .ref s0, .ref s1, .ref s2] H := rn_nx rfl
theorem x148_340 (l0 : Value) (s0 : Int32) (s1 : Nat) (s2 : Nat) (s3 : Nat) (H : HS) : rn 148 340 [l0] [.int s0, .ref s1, .ref s2, .ref s3] H = rn 148 342 [l0] [.int 21, .int s0, .ref s1, .ref s2, .ref s3] H := rn_nx rfl
theorem x148_342 (l0 : Value) (s0 : Int32) (s1 : Int32) (s2 : Nat) (s3 : Nat) (s4 : Nat) (H : HS) : rn 148 342 [l0] [.int s0, .int s1, .ref s2, .ref s3, .ref s4] H = pk 148 343 [l0] [.ref s3, .ref s4] (ast H 100 s2 s1 (.int s0)) := (rn_ev ..).trans (ev_pk rfl)
theorem x148_343 (l0 : Value) (s0 : Nat) (s1 : Nat) (H : HS) : rn 148 343 [l0] [.ref s0, .ref s1] H = rn 148 344 [l0] [.ref s0, .ref s0, .ref s1] H := rn_nx rfl
theorem x148_344 (l0 : Value) (s0 : Nat) (s1 : Nat) (s2 : Nat) (H : HS) : rn 148 344 [l0] [.ref s0, .ref s1, .ref s2] H = rn 148 345 [l0] [.int 4, .ref s0, .ref s1, .ref s2] H := rn_nx rfl
theorem x148_345 (l0 : Value) (s0 : Int32) (s1 : Nat) (s2 : Nat) (s3 : Nat) (H : HS) : rn 148 345 [l0] [.int s0, .ref s1, .ref s2, .ref s3] H = rn 148 347 [l0] [.int 26, .int s0, .ref s1, .ref s2, .ref s3] H := rn_nx rfl
theorem x148_347 (l0 : Value) (s0 : Int32) (s1 : Int32) (s2 : Nat) (s3 : Nat) (s4 : Nat) (H : HS) : rn 148 347 [l0] [.int s0, .int s1, .ref s2, .ref s3, .ref s4] H = pk 148 348 [l0] [.ref s3, .ref s4] (ast H 100 s2 s1 (.int s0)) := (rn_ev ..).trans (ev_pk rfl)
theorem x148_348 (l0 : Value) (s0 : Nat) (s1 : Nat) (H : HS) : rn 148 348 [l0] [.ref s0, .ref s1] H = rn 148 349 [l0] [.ref s0, .ref s0, .ref s1] H := rn_nx rfl
theorem x148_349 (l0 : Value) (s0 : Nat) (s1 : Nat) (s2 : Nat) (H : HS) : rn 148 349 [l0] [.ref s0, .ref s1, .ref s2] H = rn 148 350 [l0] [.int 5, .ref s0, .ref s1, .ref s2] H := rn_nx rfl
theorem x148_350 (l0 : Value) (s0 : Int32) (s1 : Nat) (s2 : Nat) (s3 : Nat) (H : HS) : rn 148 350 [l0] [.int s0, .ref s1, .ref s2, .ref s3] H = rn 148 352 [l0] [.int 29, .int s0, .ref s1, .ref s2, .ref s3] H := rn_nx rfl
theorem x148_352 (l0 : Value) (s0 : Int32) (s1 : Int32) (s2 : Nat) (s3 : Nat) (s4 : Nat) (H : HS) : rn 148 352 [l0] [.int s0, .int s1, .ref s2, .ref s3, .ref s4] H = pk 148 353 [l0] [.ref s3, .ref s4] (ast H 100 s2 s1 (.int s0)) := (rn_ev ..).trans (ev_pk rfl)
theorem x148_353 (l0 : Value) (s0 : Nat) (s1 : Nat) (H : HS) : rn 148 353 [l0] [.ref s0, .ref s1] H = rn 148 354 [l0] [.ref s0, .ref s0, .ref s1] H := rn_nx rfl
theorem x148_354 (l0 : Value) (s0 : Nat) (s1 : Nat) (s2 : Nat) (H : HS) : rn 148 354 [l0] [.ref s0, .ref s1, .ref s2] H = rn 148 356 [l0] [.int 6, .ref s0, .ref s1, .ref s2] H := rn_nx rfl
theorem x148_356 (l0 : Value) (s0 : Int32) (s1 : Nat) (s2 : Nat) (s3 : Nat) (H : HS) : rn 148 356 [l0] [.int s0, .ref s1, .ref s2, .ref s3] H = rn 148 358 [l0] [.int 36, .int s0, .ref s1, .ref s2, .ref s3] H := rn_nx rfl
theorem x148_358 (l0 : Value) (s0 : Int32) (s1 : Int32) (s2 : Nat) (s3 : Nat) (s4 : Nat) (H : HS) : rn 148 358 [l0] [.int s0, .int s1, .ref s2, .ref s3, .ref s4] H = pk 148 359 [l0] [.ref s3, .ref s4] (ast H 100 s2 s1 (.int s0)) := (rn_ev ..).trans (ev_pk rfl)
theorem x148_359 (l0 : Value) (s0 : Nat) (s1 : Nat) (H : HS) : rn 148 359 [l0] [.ref s0, .ref s1] H = rn 148 360 [l0] [.ref s0, .ref s0, .ref s1] H := rn_nx rfl
theorem x148_360 (l0 : Value) (s0 : Nat) (s1 : Nat) (s2 : Nat) (H : HS) : rn 148 360 [l0] [.ref s0, .ref s1, .ref s2] H = rn 148 362 [l0] [.int 7, .ref s0, .ref s1, .ref s2] H := rn_nx rfl
theorem x148_362 (l0 : Value) (s0 : Int32) (s1 : Nat) (s2 : Nat) (s3 : Nat) (H : HS) : rn 148 362 [l0] [.int s0, .ref s1, .ref s2, .ref s3] H = rn 148 364 [l0] [.int 41, .int s0, .ref s1, .ref s2, .ref s3] H := rn_nx rfl
theorem x148_364 (l0 : Value) (s0 : Int32) (s1 : Int32) (s2 : Nat) (s3 : Nat) (s4 : Nat) (H : HS) : rn 148 364 [l0] [.int s0, .int s1, .ref s2, .ref s3, .ref s4] H = pk 148 365 [l0] [.ref s3, .ref s4] (ast H 100 s2 s1 (.int s0)) := (rn_ev ..).trans (ev_pk rfl)
theorem x148_365 (l0 : Value) (s0 : Nat) (s1 : Nat) (H : HS) : rn 148 365 [l0] [.ref s0, .ref s1] H = pk 148 368 [l0] [] (pfd H true 5 15 s1 (.ref s0)) := (rn_ev ..).trans (ev_pk rfl)
theorem x148_368 (l0 : Nat) (H : HS) : rn 148 368 [.ref l0] [] H = rn 148 369 [.ref l0] [.ref l0] H := rn_nx rfl
theorem x148_369 (l0 : Value) (s0 : Nat) (H : HS) : rn 148 369 [l0] [.ref s0] H = rn 148 372 [l0] [.int 244, .ref s0] H := rn_nx rfl
theorem x148_372 (l0 : Value) (s0 : Int32) (s1 : Nat) (H : HS) : rn 148 372 [l0] [.int s0, .ref s1] H = if s0 < 0 ∨ 100000 < s0.toNatClampNeg then none else rn 148 374 [l0] [.ref H.2.1, .ref s1] (hsn H (100, List.replicate s0.toNatClampNeg (.int 0)) s0.toNatClampNeg) := (rn_ev ..).trans (ev_if rfl)
theorem x148_374 (l0 : Value) (s0 : Nat) (s1 : Nat) (H : HS) : rn 148 374 [l0] [.ref s0, .ref s1] H = pk 148 377 [l0] [] (pfd H true 5 16 s1 (.ref s0)) := (rn_ev ..).trans (ev_pk rfl)
theorem x148_377 (l0 : Nat) (H : HS) : rn 148 377 [.ref l0] [] H = rn 148 378 [.ref l0] [.ref l0] H := rn_nx rfl
theorem x148_378 (l0 : Value) (s0 : Nat) (H : HS) : rn 148 378 [l0] [.ref s0] H = rn 148 380 [l0] [.int 120, .ref s0] H := rn_nx rfl
theorem x148_380 (l0 : Value) (s0 : Int32) (s1 : Nat) (H : HS) : rn 148 380 [l0] [.int s0, .ref s1] H = if s0 < 0 ∨ 100000 < s0.toNatClampNeg then none else rn 148 382 [l0] [.ref H.2.1, .ref s1] (hsn H (100, List.replicate s0.toNatClampNeg (.int 0)) s0.toNatClampNeg) := (rn_ev ..).trans (ev_if rfl)
theorem x148_382 (l0 : Value) (s0 : Nat) (s1 : Nat) (H : HS) : rn 148 382 [l0] [.ref s0, .ref s1] H = pk 148 385 [l0] [] (pfd H true 5 21 s1 (.ref s0)) := (rn_ev ..).trans (ev_pk rfl)
theorem x148_385 (l0 : Value) (H : HS) : rn 148 385 [l0] [] H = some (.inl none, H) := rn_end rfl
theorem c148 (a0 : Nat) (H : HS) : rcal 148 [.ref a0] H = rn 148 0 [.ref a0] [] H := rfl
theorem x149_0 (l0 : Nat) (H : HS) : rn 149 0 [.ref l0] [] H = rn 149 1 [.ref l0] [.ref l0] H := rn_nx rfl
theorem x149_1 (l0 : Value) (s0 : Nat) (H : HS) : rn 149 1 [l0] [.ref s0] H = gk 149 4 [l0] [] H (gfd H 5 9 s0) := (rn_ev ..).trans (ev_gk rfl)
theorem x149_4 (l0 : Value) (s0 : Int32) (H : HS) : rn 149 4 [l0] [.int s0] H = some (.inl (some (.int s0)), H) := rn_end rfl
theorem c149 (a0 : Nat) (H : HS) : rcal 149 [.ref a0] H = rn 149 0 [.ref a0] [] H := rfl
theorem x150_0 (l1 : Value) (l0 : Nat) (H : HS) : rn 150 0 [.ref l0, l1] [] H = rn 150 1 [.ref l0, l1] [.ref l0] H := rn_nx rfl
theorem x150_1 (l0 : Value) (l1 : Int32) (s0 : Nat) (H : HS) : rn 150 1 [l0, .int l1] [.ref s0] H = rn 150 2 [l0, .int l1] [.int l1, .ref s0] H := rn_nx rfl
theorem x150_2 (l0 l1 : Value) (s0 : Int32) (s1 : Nat) (H : HS) : rn 150 2 [l0, l1] [.int s0, .ref s1] H = pk 150 5 [l0, l1] [] (pfd H true 5 9 s1 (.int s0)) := (rn_ev ..).trans (ev_pk rfl)
theorem x150_5 (l0 l1 : Value) (H : HS) : rn 150 5 [l0, l1] [] H = rn 150 6 [l0, l1] [.int (-1)] H := rn_nx rfl
theorem x150_6 (l0 l1 : Value) (s0 : Int32) (H : HS) : rn 150 6 [l0, l1] [.int s0] H = some (.inl (some (.int s0)), H) := rn_end rfl
theorem c150 (a0 : Nat) (a1 : Int32) (H : HS) : rcal 150 [.ref a0, .int a1] H = rn 150 0 [.ref a0, .int a1] [] H := rfl
theorem x151_0 (l1 l2 l3 l4 l5 : Value) (l0 : Int64) (H : HS) : rn 151 0 [.long l0, l1, l2, l3, l4, l5] [] H = rn 151 1 [.long l0, l1, l2, l3, l4, l5] [.long l0] H := rn_nx rfl
theorem x151_1 (l0 l1 l3 l4 l5 : Value) (l2 : Int64) (s0 : Int64) (H : HS) : rn 151 1 [l0, l1, .long l2, l3, l4, l5] [.long s0] H = rn 151 2 [l0, l1, .long l2, l3, l4, l5] [.long l2, .long s0] H := rn_nx rfl
theorem x151_2 (l0 l1 l2 l3 l4 l5 : Value) (s0 : Int64) (s1 : Int64) (H : HS) : rn 151 2 [l0, l1, l2, l3, l4, l5] [.long s0, .long s1] H = rn 151 3 [l0, l1, l2, l3, l4, l5] [.int (lg_cmp s1 s0)] H := rn_nx rfl
theorem x151_3 (l0 l1 l2 l3 l4 l5 : Value) (s0 : Int32) (H : HS) : rn 151 3 [l0, l1, l2, l3, l4, l5] [.int s0] H = if s0 < 0 then rn 151 17 [l0, l1, l2, l3, l4, l5] [] H else rn 151 6 [l0, l1, l2, l3, l4, l5] [] H := (rn_ev ..).trans (ev_bif rfl)
theorem x151_6 (l1 l2 l3 l4 l5 : Value) (l0 : Int64) (H : HS) : rn 151 6 [.long l0, l1, l2, l3, l4, l5] [] H = rn 151 7 [.long l0, l1, l2, l3, l4, l5] [.long l0] H := rn_nx rfl
theorem x151_7 (l0 l1 l2 l3 l5 : Value) (l4 : Int64) (s0 : Int64) (H : HS) : rn 151 7 [l0, l1, l2, l3, .long l4, l5] [.long s0] H = rn 151 9 [l0, l1, l2, l3, .long l4, l5] [.long l4, .long s0] H := rn_nx rfl
theorem x151_9 (l0 l1 l2 l3 l4 l5 : Value) (s0 : Int64) (s1 : Int64) (H : HS) : rn 151 9 [l0, l1, l2, l3, l4, l5] [.long s0, .long s1] H = rn 151 10 [l0, l1, l2, l3, l4, l5] [.int (lg_cmp s1 s0)] H := rn_nx rfl
theorem x151_10 (l0 l1 l2 l3 l4 l5 : Value) (s0 : Int32) (H : HS) : rn 151 10 [l0, l1, l2, l3, l4, l5] [.int s0] H = if 0 < s0 then rn 151 17 [l0, l1, l2, l3, l4, l5] [] H else rn 151 13 [l0, l1, l2, l3, l4, l5] [] H := (rn_ev ..).trans (ev_bif rfl)
theorem x151_13 (l0 l1 l2 l3 l4 l5 : Value) (H : HS) : rn 151 13 [l0, l1, l2, l3, l4, l5] [] H = rn 151 14 [l0, l1, l2, l3, l4, l5] [.int 1] H := rn_nx rfl
theorem x151_14 (l0 l1 l2 l3 l4 l5 : Value) (s0 : Int32) (H : HS) : rn 151 14 [l0, l1, l2, l3, l4, l5] [.int s0] H = rn 151 18 [l0, l1, l2, l3, l4, l5] [.int s0] H := rn_nx rfl
theorem x151_18 (l0 l1 l2 l3 l4 l5 : Value) (s0 : Int32) (H : HS) : rn 151 18 [l0, l1, l2, l3, l4, l5] [.int s0] H = if fitp 1 (.int s0) = true then some (.inl (some (.int s0)), H) else none := (rn_ev ..).trans (ev_ret rfl)
theorem x151_17 (l0 l1 l2 l3 l4 l5 : Value) (H : HS) : rn 151 17 [l0, l1, l2, l3, l4, l5] [] H = rn 151 18 [l0, l1, l2, l3, l4, l5] [.int 0] H := rn_nx rfl
theorem c151 (a0 : Int64) (a1 : Int64) (a2 : Int64) (H : HS) : rcal 151 [.long a0, .long a1, .long a2] H = rn 151 0 [.long a0, un, .long a1, un, .long a2, un] [] H := rfl
theorem x152_0 (l1 : Value) (l0 : Nat) (H : HS) : rn 152 0 [.ref l0, l1] [] H = rn 152 1 [.ref l0, l1] [.ref l0] H := rn_nx rfl
theorem x152_1 (l0 l1 : Value) (s0 : Nat) (H : HS) : rn 152 1 [l0, l1] [.ref s0] H = rn 152 2 [l0, l1] [.int 0, .ref s0] H := rn_nx rfl
theorem x152_2 (l0 l1 : Value) (s0 : Int32) (s1 : Nat) (H : HS) : rn 152 2 [l0, l1] [.int s0, .ref s1] H = pk 152 5 [l0, l1] [] (pfd H true 5 9 s1 (.int s0)) := (rn_ev ..).trans (ev_pk rfl)
theorem x152_5 (l0 l1 : Value) (H : HS) : rn 152 5 [l0, l1] [] H = rn 152 6 [l0, l1] [.int 0] H := rn_nx rfl
theorem x152_6 (l0 l1 : Value) (s0 : Int32) (H : HS) : rn 152 6 [l0, l1] [.int s0] H = rn 152 7 [(kl l0), .int s0] [] H := rn_nx rfl
theorem x152_7 (l0 : Value) (l1 : Int32) (H : HS) : rn 152 7 [l0, .int l1] [] H = rn 152 8 [l0, .int l1] [.int l1] H := rn_nx rfl
theorem x152_8 (l0 l1 : Value) (s0 : Int32) (H : HS) : rn 152 8 [l0, l1] [.int s0] H = rn 152 10 [l0, l1] [.int 76, .int s0] H := rn_nx rfl
theorem x152_10 (l0 l1 : Value) (s0 : Int32) (s1 : Int32) (H : HS) : rn 152 10 [l0, l1] [.int s0, .int s1] H = if s1 < s0 then rn 152 13 [l0, l1] [] H else rn 152 31 [l0, l1] [] H := (rn_ev ..).trans (ev_bin rfl)
theorem x152_13 (l1 : Value) (l0 : Nat) (H : HS) : rn 152 13 [.ref l0, l1] [] H = rn 152 14 [.ref l0, l1] [.ref l0] H := rn_nx rfl
theorem x152_14 (l0 l1 : Value) (s0 : Nat) (H : HS) : rn 152 14 [l0, l1] [.ref s0] H = gk 152 17 [l0, l1] [] H (gfd H 5 1 s0) := (rn_ev ..).trans (ev_gk rfl)
theorem x152_17 (l0 : Value) (l1 : Int32) (s0 : Nat) (H : HS) : rn 152 17 [l0, .int l1] [.ref s0] H = rn 152 18 [l0, .int l1] [.int l1, .ref s0] H := rn_nx rfl
theorem x152_18 (l1 : Value) (l0 : Nat) (s0 : Int32) (s1 : Nat) (H : HS) : rn 152 18 [.ref l0, l1] [.int s0, .ref s1] H = rn 152 19 [.ref l0, l1] [.ref l0, .int s0, .ref s1] H := rn_nx rfl
theorem x152_19 (l0 l1 : Value) (s0 : Nat) (s1 : Int32) (s2 : Nat) (H : HS) : rn 152 19 [l0, l1] [.ref s0, .int s1, .ref s2] H = gk 152 22 [l0, l1] [.int s1, .ref s2] H (gfd H 5 0 s0) := (rn_ev ..).trans (ev_gk rfl)
theorem x152_22 (l0 : Value) (l1 : Int32) (s0 : Nat) (s1 : Int32) (s2 : Nat) (H : HS) : rn 152 22 [l0, .int l1] [.ref s0, .int s1, .ref s2] H = rn 152 23 [l0, .int l1] [.int l1, .ref s0, .int s1, .ref s2] H := rn_nx rfl
theorem x152_23 (l0 l1 : Value) (s0 : Int32) (s1 : Nat) (s2 : Int32) (s3 : Nat) (H : HS) : rn 152 23 [l0, l1] [.int s0, .ref s1, .int s2, .ref s3] H = gk 152 24 [l0, l1] [.int s2, .ref s3] H (ald H 100 s1 s0) := (rn_ev ..).trans (ev_gk rfl)
theorem x152_24 (l0 l1 : Value) (s0 : Int32) (s1 : Int32) (s2 : Nat) (H : HS) : rn 152 24 [l0, l1] [.int s0, .int s1, .ref s2] H = pk 152 25 [l0, l1] [] (ast H 100 s2 s1 (.int s0)) := (rn_ev ..).trans (ev_pk rfl)
theorem x152_25 (l0 : Value) (l1 : Int32) (H : HS) : rn 152 25 [l0, .int l1] [] H = rn 152 28 [(kl l0), .int (l1 + 1)] [] H := rn_nx rfl
theorem x152_28 (l0 l1 : Value) (H : HS) : rn 152 28 [l0, l1] [] H = rn 152 7 [l0, l1] [] H := rn_nx rfl
theorem x152_31 (l0 l1 : Value) (H : HS) : rn 152 31 [l0, l1] [] H = some (.inl none, H) := rn_end rfl
theorem c152 (a0 : Nat) (H : HS) : rcal 152 [.ref a0] H = rn 152 0 [.ref a0, un] [] H := rfl
theorem x153_0 (l1 l2 : Value) (l0 : Nat) (H : HS) : rn 153 0 [.ref l0, l1, l2] [] H = rn 153 1 [.ref l0, l1, l2] [.ref l0] H := rn_nx rfl
theorem x153_1 (l0 l1 l2 : Value) (s0 : Nat) (H : HS) : rn 153 1 [l0, l1, l2] [.ref s0] H = gk 153 4 [l0, l1, l2] [] H (gfd H 5 9 s0) := (rn_ev ..).trans (ev_gk rfl)
theorem x153_4 (l0 l1 l2 : Value) (s0 : Int32) (H : HS) : rn 153 4 [l0, l1, l2] [.int s0] H = if 0 < s0 then rn 153 7 [l0, l1, l2] [] H else rn 153 9 [l0, l1, l2] [] H := (rn_ev ..).trans (ev_bin rfl)
theorem x153_7 (l0 l2 : Value) (l1 : Int32) (H : HS) : rn 153 7 [l0, .int l1, l2] [] H = rn 153 8 [l0, .int l1, l2] [.int l1] H := rn_nx rfl
theorem x153_8 (l0 l1 l2 : Value) (s0 : Int32) (H : HS) : rn 153 8 [l0, l1, l2] [.int s0] H = some (.inl (some (.int s0)), H) := rn_end rfl
theorem x153_9 (l1 l2 : Value) (l0 : Nat) (H : HS) : rn 153 9 [.ref l0, l1, l2] [] H = rn 153 10 [.ref l0, l1, l2] [.ref l0] H := rn_nx rfl
theorem x153_10 (l0 l1 l2 : Value) (s0 : Nat) (H : HS) : rn 153 10 [l0, l1, l2] [.ref s0] H = gk 153 13 [l0, l1, l2] [] H (gfd H 5 6 s0) := (rn_ev ..).trans (ev_gk rfl)
theorem x153_13 (l0 l1 l2 : Value) (s0 : Int32) (H : HS) : rn 153 13 [l0, l1, l2] [.int s0] H = rn 153 15 [l0, l1, l2] [.int 8, .int s0] H := rn_nx rfl
theorem x153_15 (l0 l1 l2 : Value) (s0 : Int32) (s1 : Int32) (H : HS) : rn 153 15 [l0, l1, l2] [.int s0, .int s1] H = if s1 = s0 then rn 153 18 [l0, l1, l2] [] H else rn 153 58 [l0, l1, l2] [] H := (rn_ev ..).trans (ev_bin rfl)
theorem x153_18 (l0 l1 l2 : Value) (H : HS) : rn 153 18 [l0, l1, l2] [] H = rn 153 19 [l0, l1, l2] [.int 0] H := rn_nx rfl
theorem x153_19 (l0 l1 l2 : Value) (s0 : Int32) (H : HS) : rn 153 19 [l0, l1, l2] [.int s0] H = rn 153 20 [l0, (kl l1), .int s0] [] H := rn_nx rfl
theorem x153_20 (l0 l1 : Value) (l2 : Int32) (H : HS) : rn 153 20 [l0, l1, .int l2] [] H = rn 153 21 [l0, l1, .int l2] [.int l2] H := rn_nx rfl
theorem x153_21 (l0 l1 l2 : Value) (s0 : Int32) (H : HS) : rn 153 21 [l0, l1, l2] [.int s0] H = rn 153 24 [l0, l1, l2] [.int 532, .int s0] H := rn_nx rfl
theorem x153_24 (l0 l1 l2 : Value) (s0 : Int32) (s1 : Int32) (H : HS) : rn 153 24 [l0, l1, l2] [.int s0, .int s1] H = if s1 < s0 then rn 153 27 [l0, l1, l2] [] H else rn 153 48 [l0, l1, l2] [] H := (rn_ev ..).trans (ev_bin rfl)
theorem x153_27 (l1 l2 : Value) (l0 : Nat) (H : HS) : rn 153 27 [.ref l0, l1, l2] [] H = rn 153 28 [.ref l0, l1, l2] [.ref l0] H := rn_nx rfl
theorem x153_28 (l0 l1 l2 : Value) (s0 : Nat) (H : HS) : rn 153 28 [l0, l1, l2] [.ref s0] H = gk 153 31 [l0, l1, l2] [] H (gfd H 5 5 s0) := (rn_ev ..).trans (ev_gk rfl)
theorem x153_31 (l0 l1 : Value) (l2 : Int32) (s0 : Nat) (H : HS) : rn 153 31 [l0, l1, .int l2] [.ref s0] H = rn 153 32 [l0, l1, .int l2] [.int l2, .ref s0] H := rn_nx rfl
theorem x153_32 (l1 l2 : Value) (l0 : Nat) (s0 : Int32) (s1 : Nat) (H : HS) : rn 153 32 [.ref l0, l1, l2] [.int s0, .ref s1] H = rn 153 33 [.ref l0, l1, l2] [.ref l0, .int s0, .ref s1] H := rn_nx rfl
theorem x153_33 (l0 l1 l2 : Value) (s0 : Nat) (s1 : Int32) (s2 : Nat) (H : HS) : rn 153 33 [l0, l1, l2] [.ref s0, .int s1, .ref s2] H = gk 153 36 [l0, l1, l2] [.int s1, .ref s2] H (gfd H 5 5 s0) := (rn_ev ..).trans (ev_gk rfl)
theorem x153_36 (l0 l1 : Value) (l2 : Int32) (s0 : Nat) (s1 : Int32) (s2 : Nat) (H : HS) : rn 153 36 [l0, l1, .int l2] [.ref s0, .int s1, .ref s2] H = rn 153 37 [l0, l1, .int l2] [.int l2, .ref s0, .int s1, .ref s2] H := rn_nx rfl
theorem x153_37 (l0 l1 l2 : Value) (s0 : Int32) (s1 : Nat) (s2 : Int32) (s3 : Nat) (H : HS) : rn 153 37 [l0, l1, l2] [.int s0, .ref s1, .int s2, .ref s3] H = rn 153 39 [l0, l1, l2] [.int 76, .int s0, .ref s1, .int s2, .ref s3] H := rn_nx rfl
theorem x153_39 (l0 l1 l2 : Value) (s0 : Int32) (s1 : Int32) (s2 : Nat) (s3 : Int32) (s4 : Nat) (H : HS) : rn 153 39 [l0, l1, l2] [.int s0, .int s1, .ref s2, .int s3, .ref s4] H = rn 153 40 [l0, l1, l2] [.int (s1 + s0), .ref s2, .int s3, .ref s4] H := rn_nx rfl
theorem x153_40 (l0 l1 l2 : Value) (s0 : Int32) (s1 : Nat) (s2 : Int32) (s3 : Nat) (H : HS) : rn 153 40 [l0, l1, l2] [.int s0, .ref s1, .int s2, .ref s3] H = gk 153 41 [l0, l1, l2] [.int s2, .ref s3] H (ald H 100 s1 s0) := (rn_ev ..).trans (ev_gk rfl)
theorem x153_41 (l0 l1 l2 : Value) (s0 : Int32) (s1 : Int32) (s2 : Nat) (H : HS) : rn 153 41 [l0, l1, l2] [.int s0, .int s1, .ref s2] H = pk 153 42 [l0, l1, l2] [] (ast H 100 s2 s1 (.int s0)) := (rn_ev ..).trans (ev_pk rfl)
theorem x153_42 (l0 l1 : Value) (l2 : Int32) (H : HS) : rn 153 42 [l0, l1, .int l2] [] H = rn 153 45 [l0, (kl l1), .int (l2 + 1)] [] H := rn_nx rfl
theorem x153_45 (l0 l1 l2 : Value) (H : HS) : rn 153 45 [l0, l1, l2] [] H = rn 153 20 [l0, l1, l2] [] H := rn_nx rfl
theorem x153_48 (l1 l2 : Value) (l0 : Nat) (H : HS) : rn 153 48 [.ref l0, l1, l2] [] H = rn 153 49 [.ref l0, l1, l2] [.ref l0] H := rn_nx rfl
theorem x153_49 (l0 l1 l2 : Value) (s0 : Nat) (H : HS) : rn 153 49 [l0, l1, l2] [.ref s0] H = rn 153 50 [l0, l1, l2] [.ref s0, .ref s0] H := rn_nx rfl
theorem x153_50 (l0 l1 l2 : Value) (s0 : Nat) (s1 : Nat) (H : HS) : rn 153 50 [l0, l1, l2] [.ref s0, .ref s1] H = gk 153 53 [l0, l1, l2] [.ref s1] H (gfd H 5 6 s0) := (rn_ev ..).trans (ev_gk rfl)
theorem x153_53 (l0 l1 l2 : Value) (s0 : Int32) (s1 : Nat) (H : HS) : rn 153 53 [l0, l1, l2] [.int s0, .ref s1] H = rn 153 54 [l0, l1, l2] [.int 1, .int s0, .ref s1] H := rn_nx rfl
theorem x153_54 (l0 l1 l2 : Value) (s0 : Int32) (s1 : Int32) (s2 : Nat) (H : HS) : rn 153 54 [l0, l1, l2] [.int s0, .int s1, .ref s2] H = rn 153 55 [l0, l1, l2] [.int (s1 - s0), .ref s2] H := rn_nx rfl
theorem x153_55 (l0 l1 l2 : Value) (s0 : Int32) (s1 : Nat) (H : HS) : rn 153 55 [l0, l1, l2] [.int s0, .ref s1] H = pk 153 58 [l0, l1, l2] [] (pfd H true 5 6 s1 (.int s0)) := (rn_ev ..).trans (ev_pk rfl)
theorem x153_58 (l0 l1 l2 : Value) (H : HS) : rn 153 58 [l0, l1, l2] [] H = rn 153 59 [l0, l1, l2] [.int 0] H := rn_nx rfl
theorem x153_59 (l0 l1 l2 : Value) (s0 : Int32) (H : HS) : rn 153 59 [l0, l1, l2] [.int s0] H = rn 153 60 [l0, (kl l1), .int s0] [] H := rn_nx rfl
theorem x153_60 (l0 l1 : Value) (l2 : Int32) (H : HS) : rn 153 60 [l0, l1, .int l2] [] H = rn 153 61 [l0, l1, .int l2] [.int l2] H := rn_nx rfl
theorem x153_61 (l0 l1 l2 : Value) (s0 : Int32) (H : HS) : rn 153 61 [l0, l1, l2] [.int s0] H = rn 153 63 [l0, l1, l2] [.int 76, .int s0] H := rn_nx rfl
theorem x153_63 (l0 l1 l2 : Value) (s0 : Int32) (s1 : Int32) (H : HS) : rn 153 63 [l0, l1, l2] [.int s0, .int s1] H = if s1 < s0 then rn 153 66 [l0, l1, l2] [] H else rn 153 92 [l0, l1, l2] [] H := (rn_ev ..).trans (ev_bin rfl)
theorem x153_66 (l1 l2 : Value) (l0 : Nat) (H : HS) : rn 153 66 [.ref l0, l1, l2] [] H = rn 153 67 [.ref l0, l1, l2] [.ref l0] H := rn_nx rfl
theorem x153_67 (l0 l1 l2 : Value) (s0 : Nat) (H : HS) : rn 153 67 [l0, l1, l2] [.ref s0] H = gk 153 70 [l0, l1, l2] [] H (gfd H 5 5 s0) := (rn_ev ..).trans (ev_gk rfl)
theorem x153_70 (l0 l1 l2 : Value) (s0 : Nat) (H : HS) : rn 153 70 [l0, l1, l2] [.ref s0] H = rn 153 72 [l0, l1, l2] [.int 76, .ref s0] H := rn_nx rfl
theorem x153_72 (l1 l2 : Value) (l0 : Nat) (s0 : Int32) (s1 : Nat) (H : HS) : rn 153 72 [.ref l0, l1, l2] [.int s0, .ref s1] H = rn 153 73 [.ref l0, l1, l2] [.ref l0, .int s0, .ref s1] H := rn_nx rfl
theorem x153_73 (l0 l1 l2 : Value) (s0 : Nat) (s1 : Int32) (s2 : Nat) (H : HS) : rn 153 73 [l0, l1, l2] [.ref s0, .int s1, .ref s2] H = gk 153 76 [l0, l1, l2] [.int s1, .ref s2] H (gfd H 5 6 s0) := (rn_ev ..).trans (ev_gk rfl)
theorem x153_76 (l0 l1 l2 : Value) (s0 : Int32) (s1 : Int32) (s2 : Nat) (H : HS) : rn 153 76 [l0, l1, l2] [.int s0, .int s1, .ref s2] H = rn 153 77 [l0, l1, l2] [.int (s1 * s0), .ref s2] H := rn_nx rfl
theorem x153_77 (l0 l1 : Value) (l2 : Int32) (s0 : Int32) (s1 : Nat) (H : HS) : rn 153 77 [l0, l1, .int l2] [.int s0, .ref s1] H = rn 153 78 [l0, l1, .int l2] [.int l2, .int s0, .ref s1] H := rn_nx rfl
theorem x153_78 (l0 l1 l2 : Value) (s0 : Int32) (s1 : Int32) (s2 : Nat) (H : HS) : rn 153 78 [l0, l1, l2] [.int s0, .int s1, .ref s2] H = rn 153 79 [l0, l1, l2] [.int (s1 + s0), .ref s2] H := rn_nx rfl
theorem x153_79 (l1 l2 : Value) (l0 : Nat) (s0 : Int32) (s1 : Nat) (H : HS) : rn 153 79 [.ref l0, l1, l2] [.int s0, .ref s1] H = rn 153 80 [.ref l0, l1, l2] [.ref l0, .int s0, .ref s1] H := rn_nx rfl
theorem x153_80 (l0 l1 l2 : Value) (s0 : Nat) (s1 : Int32) (s2 : Nat) (H : HS) : rn 153 80 [l0, l1, l2] [.ref s0, .int s1, .ref s2] H = gk 153 83 [l0, l1, l2] [.int s1, .ref s2] H (gfd H 5 1 s0) := (rn_ev ..).trans (ev_gk rfl)
theorem x153_83 (l0 l1 : Value) (l2 : Int32) (s0 : Nat) (s1 : Int32) (s2 : Nat) (H : HS) : rn 153 83 [l0, l1, .int l2] [.ref s0, .int s1, .ref s2] H = rn 153 84 [l0, l1, .int l2] [.int l2, .ref s0, .int s1, .ref s2] H := rn_nx rfl
theorem x153_84 (l0 l1 l2 : Value) (s0 : Int32) (s1 : Nat) (s2 : Int32) (s3 : Nat) (H : HS) : rn 153 84 [l0, l1, l2] [.int s0, .ref s1, .int s2, .ref s3] H = gk 153 85 [l0, l1, l2] [.int s2, .ref s3] H (ald H 100 s1 s0) := (rn_ev ..).trans (ev_gk rfl)
theorem x153_85 (l0 l1 l2 : Value) (s0 : Int32) (s1 : Int32) (s2 : Nat) (H : HS) : rn 153 85 [l0, l1, l2] [.int s0, .int s1, .ref s2] H = pk 153 86 [l0, l1, l2] [] (ast H 100 s2 s1 (.int s0)) := (rn_ev ..).trans (ev_pk rfl)
theorem x153_86 (l0 l1 : Value) (l2 : Int32) (H : HS) : rn 153 86 [l0, l1, .int l2] [] H = rn 153 89 [l0, (kl l1), .int (l2 + 1)] [] H := rn_nx rfl
theorem x153_89 (l0 l1 l2 : Value) (H : HS) : rn 153 89 [l0, l1, l2] [] H = rn 153 60 [l0, l1, l2] [] H := rn_nx rfl
theorem x153_92 (l1 l2 : Value) (l0 : Nat) (H : HS) : rn 153 92 [.ref l0, l1, l2] [] H = rn 153 93 [.ref l0, l1, l2] [.ref l0] H := rn_nx rfl
theorem x153_93 (l0 l1 l2 : Value) (s0 : Nat) (H : HS) : rn 153 93 [l0, l1, l2] [.ref s0] H = rn 153 94 [l0, l1, l2] [.ref s0, .ref s0] H := rn_nx rfl
theorem x153_94 (l0 l1 l2 : Value) (s0 : Nat) (s1 : Nat) (H : HS) : rn 153 94 [l0, l1, l2] [.ref s0, .ref s1] H = gk 153 97 [l0, l1, l2] [.ref s1] H (gfd H 5 6 s0) := (rn_ev ..).trans (ev_gk rfl)
theorem x153_97 (l0 l1 l2 : Value) (s0 : Int32) (s1 : Nat) (H : HS) : rn 153 97 [l0, l1, l2] [.int s0, .ref s1] H = rn 153 98 [l0, l1, l2] [.int 1, .int s0, .ref s1] H := rn_nx rfl
theorem x153_98 (l0 l1 l2 : Value) (s0 : Int32) (s1 : Int32) (s2 : Nat) (H : HS) : rn 153 98 [l0, l1, l2] [.int s0, .int s1, .ref s2] H = rn 153 99 [l0, l1, l2] [.int (s1 + s0), .ref s2] H := rn_nx rfl
theorem x153_99 (l0 l1 l2 : Value) (s0 : Int32) (s1 : Nat) (H : HS) : rn 153 99 [l0, l1, l2] [.int s0, .ref s1] H = pk 153 102 [l0, l1, l2] [] (pfd H true 5 6 s1 (.int s0)) := (rn_ev ..).trans (ev_pk rfl)
theorem x153_102 (l0 l2 : Value) (l1 : Int32) (H : HS) : rn 153 102 [l0, .int l1, l2] [] H = rn 153 103 [l0, .int l1, l2] [.int l1] H := rn_nx rfl
theorem x153_103 (l0 l1 l2 : Value) (s0 : Int32) (H : HS) : rn 153 103 [l0, l1, l2] [.int s0] H = some (.inl (some (.int s0)), H) := rn_end rfl
theorem c153 (a0 : Nat) (a1 : Int32) (H : HS) : rcal 153 [.ref a0, .int a1] H = rn 153 0 [.ref a0, .int a1, un] [] H := rfl
theorem x154_0 (l0 : Value) (H : HS) : rn 154 0 [l0] [] H = rn 154 2 [l0] [.int 22] H := rn_nx rfl
theorem x154_2 (l0 : Value) (s0 : Int32) (H : HS) : rn 154 2 [l0] [.int s0] H = rn 154 4 [l0] [.int 9, .int s0] H := rn_nx rfl
theorem x154_4 (l0 : Int32) (s0 : Int32) (s1 : Int32) (H : HS) : rn 154 4 [.int l0] [.int s0, .int s1] H = rn 154 5 [.int l0] [.int l0, .int s0, .int s1] H := rn_nx rfl
theorem x154_5 (l0 : Value) (s0 : Int32) (s1 : Int32) (s2 : Int32) (H : HS) : rn 154 5 [l0] [.int s0, .int s1, .int s2] H = rn 154 6 [l0] [.int (s1 * s0), .int s2] H := rn_nx rfl
theorem x154_6 (l0 : Value) (s0 : Int32) (s1 : Int32) (H : HS) : rn 154 6 [l0] [.int s0, .int s1] H = rn 154 7 [l0] [.int (s1 + s0)] H := rn_nx rfl
theorem x154_7 (l0 : Value) (s0 : Int32) (H : HS) : rn 154 7 [l0] [.int s0] H = some (.inl (some (.int s0)), H) := rn_end rfl
theorem c154 (a0 : Int32) (H : HS) : rcal 154 [.int a0] H = rn 154 0 [.int a0] [] H := rfl
theorem x155_0 (l0 : Value) (l1 : Int32) (H : HS) : rn 155 0 [l0, .int l1] [] H = rn 155 1 [l0, .int l1] [.int l1] H := rn_nx rfl
theorem x155_1 (l0 l1 : Value) (s0 : Int32) (H : HS) : rn 155 1 [l0, l1] [.int s0] H = rn 155 2 [l0, l1] [.long s0.toInt64] H := rn_nx rfl
theorem x155_2 (l0 l1 : Value) (s0 : Int64) (H : HS) : rn 155 2 [l0, l1] [.long s0] H = rn 155 3 [l0, l1] [.long 0, .long s0] H := rn_nx rfl
theorem x155_3 (l1 : Value) (l0 : Nat) (s0 : Int64) (s1 : Int64) (H : HS) : rn 155 3 [.ref l0, l1] [.long s0, .long s1] H = rn 155 4 [.ref l0, l1] [.ref l0, .long s0, .long s1] H := rn_nx rfl
theorem x155_4 (l0 l1 : Value) (s0 : Nat) (s1 : Int64) (s2 : Int64) (H : HS) : rn 155 4 [l0, l1] [.ref s0, .long s1, .long s2] H = gk 155 7 [l0, l1] [.long s1, .long s2] H (gfd H 5 0 s0) := (rn_ev ..).trans (ev_gk rfl)
theorem x155_7 (l0 l1 : Value) (s0 : Nat) (s1 : Int64) (s2 : Int64) (H : HS) : rn 155 7 [l0, l1] [.ref s0, .long s1, .long s2] H = rn 155 8 [l0, l1] [.int 0, .ref s0, .long s1, .long s2] H := rn_nx rfl
theorem x155_8 (l0 l1 : Value) (s0 : Int32) (s1 : Nat) (s2 : Int64) (s3 : Int64) (H : HS) : rn 155 8 [l0, l1] [.int s0, .ref s1, .long s2, .long s3] H = gk 155 9 [l0, l1] [.long s2, .long s3] H (ald H 100 s1 s0) := (rn_ev ..).trans (ev_gk rfl)
theorem x155_9 (l0 l1 : Value) (s0 : Int32) (s1 : Int64) (s2 : Int64) (H : HS) : rn 155 9 [l0, l1] [.int s0, .long s1, .long s2] H = rn 155 10 [l0, l1] [.int 1, .int s0, .long s1, .long s2] H := rn_nx rfl
theorem x155_10 (l0 l1 : Value) (s0 : Int32) (s1 : Int32) (s2 : Int64) (s3 : Int64) (H : HS) : rn 155 10 [l0, l1] [.int s0, .int s1, .long s2, .long s3] H = rn 155 11 [l0, l1] [.int (s1 - s0), .long s2, .long s3] H := rn_nx rfl
theorem x155_11 (l0 l1 : Value) (s0 : Int32) (s1 : Int64) (s2 : Int64) (H : HS) : rn 155 11 [l0, l1] [.int s0, .long s1, .long s2] H = rn 155 12 [l0, l1] [.long s0.toInt64, .long s1, .long s2] H := rn_nx rfl
theorem x155_12 (l0 l1 : Value) (s0 : Int64) (s1 : Int64) (s2 : Int64) (H : HS) : rn 155 12 [l0, l1] [.long s0, .long s1, .long s2] H = bnd true 155 12 [l0, l1] [] (rcal 151 [.long s2, .long s1, .long s0] H) := rn_cal rfl
theorem x155_15 (l0 l1 : Value) (s0 : Int32) (H : HS) : rn 155 15 [l0, l1] [.int s0] H = if fitp 1 (.int s0) = true then some (.inl (some (.int s0)), H) else none := (rn_ev ..).trans (ev_ret rfl)
theorem c155 (a0 : Nat) (a1 : Int32) (H : HS) : rcal 155 [.ref a0, .int a1] H = rn 155 0 [.ref a0, .int a1] [] H := rfl
theorem x156_0 (l0 : Value) (l1 : Int32) (H : HS) : rn 156 0 [l0, .int l1] [] H = rn 156 1 [l0, .int l1] [.int l1] H := rn_nx rfl
theorem x156_1 (l0 l1 : Value) (s0 : Int32) (H : HS) : rn 156 1 [l0, l1] [.int s0] H = rn 156 2 [l0, l1] [.long s0.toInt64] H := rn_nx rfl
theorem x156_2 (l0 l1 : Value) (s0 : Int64) (H : HS) : rn 156 2 [l0, l1] [.long s0] H = rn 156 3 [l0, l1] [.long 0, .long s0] H := rn_nx rfl
theorem x156_3 (l1 : Value) (l0 : Nat) (s0 : Int64) (s1 : Int64) (H : HS) : rn 156 3 [.ref l0, l1] [.long s0, .long s1] H = rn 156 4 [.ref l0, l1] [.ref l0, .long s0, .long s1] H := rn_nx rfl
theorem x156_4 (l0 l1 : Value) (s0 : Nat) (s1 : Int64) (s2 : Int64) (H : HS) : rn 156 4 [l0, l1] [.ref s0, .long s1, .long s2] H = gk 156 7 [l0, l1] [.long s1, .long s2] H (gfd H 5 0 s0) := (rn_ev ..).trans (ev_gk rfl)
theorem x156_7 (l0 l1 : Value) (s0 : Nat) (s1 : Int64) (s2 : Int64) (H : HS) : rn 156 7 [l0, l1] [.ref s0, .long s1, .long s2] H = rn 156 8 [l0, l1] [.int 0, .ref s0, .long s1, .long s2] H := rn_nx rfl
theorem x156_8 (l0 l1 : Value) (s0 : Int32) (s1 : Nat) (s2 : Int64) (s3 : Int64) (H : HS) : rn 156 8 [l0, l1] [.int s0, .ref s1, .long s2, .long s3] H = gk 156 9 [l0, l1] [.long s2, .long s3] H (ald H 100 s1 s0) := (rn_ev ..).trans (ev_gk rfl)
theorem x156_9 (l0 l1 : Value) (s0 : Int32) (s1 : Int64) (s2 : Int64) (H : HS) : rn 156 9 [l0, l1] [.int s0, .long s1, .long s2] H = rn 156 10 [l0, l1] [.int 2, .int s0, .long s1, .long s2] H := rn_nx rfl
theorem x156_10 (l0 l1 : Value) (s0 : Int32) (s1 : Int32) (s2 : Int64) (s3 : Int64) (H : HS) : rn 156 10 [l0, l1] [.int s0, .int s1, .long s2, .long s3] H = rn 156 11 [l0, l1] [.int (s1 - s0), .long s2, .long s3] H := rn_nx rfl
theorem x156_11 (l0 l1 : Value) (s0 : Int32) (s1 : Int64) (s2 : Int64) (H : HS) : rn 156 11 [l0, l1] [.int s0, .long s1, .long s2] H = rn 156 12 [l0, l1] [.long s0.toInt64, .long s1, .long s2] H := rn_nx rfl
theorem x156_12 (l0 l1 : Value) (s0 : Int64) (s1 : Int64) (s2 : Int64) (H : HS) : rn 156 12 [l0, l1] [.long s0, .long s1, .long s2] H = bnd true 156 12 [l0, l1] [] (rcal 151 [.long s2, .long s1, .long s0] H) := rn_cal rfl
theorem x156_15 (l0 l1 : Value) (s0 : Int32) (H : HS) : rn 156 15 [l0, l1] [.int s0] H = if fitp 1 (.int s0) = true then some (.inl (some (.int s0)), H) else none := (rn_ev ..).trans (ev_ret rfl)
theorem c156 (a0 : Nat) (a1 : Int32) (H : HS) : rcal 156 [.ref a0, .int a1] H = rn 156 0 [.ref a0, .int a1] [] H := rfl
theorem x157_0 (l0 l1 l2 : Value) (H : HS) : rn 157 0 [l0, l1, l2] [] H = rn 157 1 [l0, l1, l2] [.int 0] H := rn_nx rfl
theorem x157_1 (l0 l1 l2 : Value) (s0 : Int32) (H : HS) : rn 157 1 [l0, l1, l2] [.int s0] H = rn 157 2 [l0, (kl l1), .int s0] [] H := rn_nx rfl
theorem x157_2 (l0 l1 : Value) (l2 : Int32) (H : HS) : rn 157 2 [l0, l1, .int l2] [] H = rn 157 3 [l0, l1, .int l2] [.int l2] H := rn_nx rfl
theorem x157_3 (l1 l2 : Value) (l0 : Nat) (s0 : Int32) (H : HS) : rn 157 3 [.ref l0, l1, l2] [.int s0] H = rn 157 4 [.ref l0, l1, l2] [.ref l0, .int s0] H := rn_nx rfl
theorem x157_4 (l0 l1 l2 : Value) (s0 : Nat) (s1 : Int32) (H : HS) : rn 157 4 [l0, l1, l2] [.ref s0, .int s1] H = gk 157 7 [l0, l1, l2] [.int s1] H (gfd H 5 0 s0) := (rn_ev ..).trans (ev_gk rfl)
theorem x157_7 (l0 l1 l2 : Value) (s0 : Nat) (s1 : Int32) (H : HS) : rn 157 7 [l0, l1, l2] [.ref s0, .int s1] H = rn 157 8 [l0, l1, l2] [.int 1, .ref s0, .int s1] H := rn_nx rfl
theorem x157_8 (l0 l1 l2 : Value) (s0 : Int32) (s1 : Nat) (s2 : Int32) (H : HS) : rn 157 8 [l0, l1, l2] [.int s0, .ref s1, .int s2] H = gk 157 9 [l0, l1, l2] [.int s2] H (ald H 100 s1 s0) := (rn_ev ..).trans (ev_gk rfl)
theorem x157_9 (l0 l1 l2 : Value) (s0 : Int32) (s1 : Int32) (H : HS) : rn 157 9 [l0, l1, l2] [.int s0, .int s1] H = if s1 < s0 then rn 157 12 [l0, l1, l2] [] H else rn 157 33 [l0, l1, l2] [] H := (rn_ev ..).trans (ev_bin rfl)
theorem x157_12 (l1 l2 : Value) (l0 : Nat) (H : HS) : rn 157 12 [.ref l0, l1, l2] [] H = rn 157 13 [.ref l0, l1, l2] [.ref l0] H := rn_nx rfl
theorem x157_13 (l0 l1 l2 : Value) (s0 : Nat) (H : HS) : rn 157 13 [l0, l1, l2] [.ref s0] H = gk 157 16 [l0, l1, l2] [] H (gfd H 5 0 s0) := (rn_ev ..).trans (ev_gk rfl)
theorem x157_16 (l0 l1 : Value) (l2 : Int32) (s0 : Nat) (H : HS) : rn 157 16 [l0, l1, .int l2] [.ref s0] H = rn 157 17 [l0, l1, .int l2] [.int l2, .ref s0] H := rn_nx rfl
theorem x157_17 (l0 l1 l2 : Value) (s0 : Int32) (s1 : Nat) (H : HS) : rn 157 17 [l0, l1, l2] [.int s0, .ref s1] H = bnd true 157 17 [l0, l1, l2] [.ref s1] (rcal 154 [.int s0] H) := rn_cal rfl
theorem x157_20 (l0 l1 l2 : Value) (s0 : Int32) (s1 : Nat) (H : HS) : rn 157 20 [l0, l1, l2] [.int s0, .ref s1] H = gk 157 21 [l0, l1, l2] [] H (ald H 100 s1 s0) := (rn_ev ..).trans (ev_gk rfl)
theorem x157_21 (l0 l2 : Value) (l1 : Int32) (s0 : Int32) (H : HS) : rn 157 21 [l0, .int l1, l2] [.int s0] H = rn 157 22 [l0, .int l1, l2] [.int l1, .int s0] H := rn_nx rfl
theorem x157_22 (l0 l1 l2 : Value) (s0 : Int32) (s1 : Int32) (H : HS) : rn 157 22 [l0, l1, l2] [.int s0, .int s1] H = if s1 = s0 then rn 157 25 [l0, l1, l2] [] H else rn 157 27 [l0, l1, l2] [] H := (rn_ev ..).trans (ev_bin rfl)
theorem x157_25 (l0 l1 : Value) (l2 : Int32) (H : HS) : rn 157 25 [l0, l1, .int l2] [] H = rn 157 26 [l0, l1, .int l2] [.int l2] H := rn_nx rfl
theorem x157_26 (l0 l1 l2 : Value) (s0 : Int32) (H : HS) : rn 157 26 [l0, l1, l2] [.int s0] H = some (.inl (some (.int s0)), H) := rn_end rfl
theorem x157_27 (l0 l1 : Value) (l2 : Int32) (H : HS) : rn 157 27 [l0, l1, .int l2] [] H = rn 157 30 [l0, (kl l1), .int (l2 + 1)] [] H := rn_nx rfl
theorem x157_30 (l0 l1 l2 : Value) (H : HS) : rn 157 30 [l0, l1, l2] [] H = rn 157 2 [l0, l1, l2] [] H := rn_nx rfl
theorem x157_33 (l0 l1 l2 : Value) (H : HS) : rn 157 33 [l0, l1, l2] [] H = rn 157 34 [l0, l1, l2] [.int (-1)] H := rn_nx rfl
theorem x157_34 (l0 l1 l2 : Value) (s0 : Int32) (H : HS) : rn 157 34 [l0, l1, l2] [.int s0] H = some (.inl (some (.int s0)), H) := rn_end rfl
theorem c157 (a0 : Nat) (a1 : Int32) (H : HS) : rcal 157 [.ref a0, .int a1] H = rn 157 0 [.ref a0, .int a1, un] [] H := rfl
theorem x158_0 (l1 : Value) (l0 : Nat) (H : HS) : rn 158 0 [.ref l0, l1] [] H = rn 158 1 [.ref l0, l1] [.ref l0] H := rn_nx rfl
theorem x158_1 (l0 l1 : Value) (s0 : Nat) (H : HS) : rn 158 1 [l0, l1] [.ref s0] H = gk 158 4 [l0, l1] [] H (gfd H 5 0 s0) := (rn_ev ..).trans (ev_gk rfl)
theorem x158_4 (l0 : Value) (l1 : Int32) (s0 : Nat) (H : HS) : rn 158 4 [l0, .int l1] [.ref s0] H = rn 158 5 [l0, .int l1] [.int l1, .ref s0] H := rn_nx rfl
theorem x158_5 (l0 l1 : Value) (s0 : Int32) (s1 : Nat) (H : HS) : rn 158 5 [l0, l1] [.int s0, .ref s1] H = bnd true 158 5 [l0, l1] [.ref s1] (rcal 154 [.int s0] H) := rn_cal rfl
theorem x158_8 (l0 l1 : Value) (s0 : Int32) (s1 : Nat) (H : HS) : rn 158 8 [l0, l1] [.int s0, .ref s1] H = rn 158 9 [l0, l1] [.int 2, .int s0, .ref s1] H := rn_nx rfl
theorem x158_9 (l0 l1 : Value) (s0 : Int32) (s1 : Int32) (s2 : Nat) (H : HS) : rn 158 9 [l0, l1] [.int s0, .int s1, .ref s2] H = rn 158 10 [l0, l1] [.int (s1 + s0), .ref s2] H := rn_nx rfl
theorem x158_10 (l0 l1 : Value) (s0 : Int32) (s1 : Nat) (H : HS) : rn 158 10 [l0, l1] [.int s0, .ref s1] H = gk 158 11 [l0, l1] [] H (ald H 100 s1 s0) := (rn_ev ..).trans (ev_gk rfl)
theorem x158_11 (l1 : Value) (l0 : Nat) (s0 : Int32) (H : HS) : rn 158 11 [.ref l0, l1] [.int s0] H = rn 158 12 [.ref l0, l1] [.ref l0, .int s0] H := rn_nx rfl
theorem x158_12 (l0 l1 : Value) (s0 : Nat) (s1 : Int32) (H : HS) : rn 158 12 [l0, l1] [.ref s0, .int s1] H = gk 158 15 [l0, l1] [.int s1] H (gfd H 5 0 s0) := (rn_ev ..).trans (ev_gk rfl)
theorem x158_15 (l0 : Value) (l1 : Int32) (s0 : Nat) (s1 : Int32) (H : HS) : rn 158 15 [l0, .int l1] [.ref s0, .int s1] H = rn 158 16 [l0, .int l1] [.int l1, .ref s0, .int s1] H := rn_nx rfl
theorem x158_16 (l0 l1 : Value) (s0 : Int32) (s1 : Nat) (s2 : Int32) (H : HS) : rn 158 16 [l0, l1] [.int s0, .ref s1, .int s2] H = bnd true 158 16 [l0, l1] [.ref s1, .int s2] (rcal 154 [.int s0] H) := rn_cal rfl
theorem x158_19 (l0 l1 : Value) (s0 : Int32) (s1 : Nat) (s2 : Int32) (H : HS) : rn 158 19 [l0, l1] [.int s0, .ref s1, .int s2] H = rn 158 20 [l0, l1] [.int 1, .int s0, .ref s1, .int s2] H := rn_nx rfl
theorem x158_20 (l0 l1 : Value) (s0 : Int32) (s1 : Int32) (s2 : Nat) (s3 : Int32) (H : HS) : rn 158 20 [l0, l1] [.int s0, .int s1, .ref s2, .int s3] H = rn 158 21 [l0, l1] [.int (s1 + s0), .ref s2, .int s3] H := rn_nx rfl
theorem x158_21 (l0 l1 : Value) (s0 : Int32) (s1 : Nat) (s2 : Int32) (H : HS) : rn 158 21 [l0, l1] [.int s0, .ref s1, .int s2] H = gk 158 22 [l0, l1] [.int s2] H (ald H 100 s1 s0) := (rn_ev ..).trans (ev_gk rfl)
theorem x158_22 (l0 l1 : Value) (s0 : Int32) (s1 : Int32) (H : HS) : rn 158 22 [l0, l1] [.int s0, .int s1] H = if s0 < s1 then rn 158 25 [l0, l1] [] H else rn 158 29 [l0, l1] [] H := (rn_ev ..).trans (ev_bin rfl)
theorem x158_25 (l0 l1 : Value) (H : HS) : rn 158 25 [l0, l1] [] H = rn 158 26 [l0, l1] [.int 1] H := rn_nx rfl
theorem x158_26 (l0 l1 : Value) (s0 : Int32) (H : HS) : rn 158 26 [l0, l1] [.int s0] H = rn 158 30 [l0, l1] [.int s0] H := rn_nx rfl
theorem x158_30 (l0 l1 : Value) (s0 : Int32) (H : HS) : rn 158 30 [l0, l1] [.int s0] H = some (.inl (some (.int s0)), H) := rn_end rfl
theorem x158_29 (l0 l1 : Value) (H : HS) : rn 158 29 [l0, l1] [] H = rn 158 30 [l0, l1] [.int (-1)] H := rn_nx rfl
theorem c158 (a0 : Nat) (a1 : Int32) (H : HS) : rcal 158 [.ref a0, .int a1] H = rn 158 0 [.ref a0, .int a1] [] H := rfl
theorem x159_0 (l1 : Value) (l0 : Nat) (H : HS) : rn 159 0 [.ref l0, l1] [] H = rn 159 1 [.ref l0, l1] [.ref l0] H := rn_nx rfl
theorem x159_1 (l0 l1 : Value) (s0 : Nat) (H : HS) : rn 159 1 [l0, l1] [.ref s0] H = gk 159 4 [l0, l1] [] H (gfd H 5 0 s0) := (rn_ev ..).trans (ev_gk rfl)
theorem x159_4 (l0 : Value) (l1 : Int32) (s0 : Nat) (H : HS) : rn 159 4 [l0, .int l1] [.ref s0] H = rn 159 5 [l0, .int l1] [.int l1, .ref s0] H := rn_nx rfl
theorem x159_5 (l0 l1 : Value) (s0 : Int32) (s1 : Nat) (H : HS) : rn 159 5 [l0, l1] [.int s0, .ref s1] H = bnd true 159 5 [l0, l1] [.ref s1] (rcal 154 [.int s0] H) := rn_cal rfl
theorem x159_8 (l0 l1 : Value) (s0 : Int32) (s1 : Nat) (H : HS) : rn 159 8 [l0, l1] [.int s0, .ref s1] H = rn 159 9 [l0, l1] [.int 5, .int s0, .ref s1] H := rn_nx rfl
theorem x159_9 (l0 l1 : Value) (s0 : Int32) (s1 : Int32) (s2 : Nat) (H : HS) : rn 159 9 [l0, l1] [.int s0, .int s1, .ref s2] H = rn 159 10 [l0, l1] [.int (s1 + s0), .ref s2] H := rn_nx rfl
theorem x159_10 (l0 l1 : Value) (s0 : Int32) (s1 : Nat) (H : HS) : rn 159 10 [l0, l1] [.int s0, .ref s1] H = gk 159 11 [l0, l1] [] H (ald H 100 s1 s0) := (rn_ev ..).trans (ev_gk rfl)
theorem x159_11 (l1 : Value) (l0 : Nat) (s0 : Int32) (H : HS) : rn 159 11 [.ref l0, l1] [.int s0] H = rn 159 12 [.ref l0, l1] [.ref l0, .int s0] H := rn_nx rfl
theorem x159_12 (l0 : Value) (l1 : Int32) (s0 : Nat) (s1 : Int32) (H : HS) : rn 159 12 [l0, .int l1] [.ref s0, .int s1] H = rn 159 13 [l0, .int l1] [.int l1, .ref s0, .int s1] H := rn_nx rfl
theorem x159_13 (l0 l1 : Value) (s0 : Int32) (s1 : Nat) (s2 : Int32) (H : HS) (h : recv H s1 5 = true) : rn 159 13 [l0, l1] [.int s0, .ref s1, .int s2] H = bnd true 159 13 [l0, l1] [.int s2] (rcal 158 [.ref s1, .int s0] H) := rn_cal (vcal h rfl)
theorem x159_16 (l0 l1 : Value) (s0 : Int32) (s1 : Int32) (H : HS) : rn 159 16 [l0, l1] [.int s0, .int s1] H = if 0 < s0 then rn 159 19 [l0, l1] [.int s1] H else rn 159 23 [l0, l1] [.int s1] H := (rn_ev ..).trans (ev_bin rfl)
theorem x159_19 (l0 l1 : Value) (s0 : Int32) (H : HS) : rn 159 19 [l0, l1] [.int s0] H = rn 159 20 [l0, l1] [.int 1, .int s0] H := rn_nx rfl
theorem x159_20 (l0 l1 : Value) (s0 : Int32) (s1 : Int32) (H : HS) : rn 159 20 [l0, l1] [.int s0, .int s1] H = rn 159 24 [l0, l1] [.int s0, .int s1] H := rn_nx rfl
theorem x159_24 (l0 l1 : Value) (s0 : Int32) (s1 : Int32) (H : HS) : rn 159 24 [l0, l1] [.int s0, .int s1] H = rn 159 25 [l0, l1] [.int (s1 + s0)] H := rn_nx rfl
theorem x159_25 (l0 l1 : Value) (s0 : Int32) (H : HS) : rn 159 25 [l0, l1] [.int s0] H = some (.inl (some (.int s0)), H) := rn_end rfl
theorem x159_23 (l0 l1 : Value) (s0 : Int32) (H : HS) : rn 159 23 [l0, l1] [.int s0] H = rn 159 24 [l0, l1] [.int 0, .int s0] H := rn_nx rfl
theorem c159 (a0 : Nat) (a1 : Int32) (H : HS) : rcal 159 [.ref a0, .int a1] H = rn 159 0 [.ref a0, .int a1] [] H := rfl
theorem x160_0 (l0 l1 l2 : Value) (H : HS) : rn 160 0 [l0, l1, l2] [] H = rn 160 1 [l0, l1, l2] [.int 0] H := rn_nx rfl
theorem x160_1 (l0 l1 l2 : Value) (s0 : Int32) (H : HS) : rn 160 1 [l0, l1, l2] [.int s0] H = rn 160 2 [l0, (kl l1), .int s0] [] H := rn_nx rfl
theorem x160_2 (l0 l1 : Value) (l2 : Int32) (H : HS) : rn 160 2 [l0, l1, .int l2] [] H = rn 160 3 [l0, l1, .int l2] [.int l2] H := rn_nx rfl
theorem x160_3 (l1 l2 : Value) (l0 : Nat) (s0 : Int32) (H : HS) : rn 160 3 [.ref l0, l1, l2] [.int s0] H = rn 160 4 [.ref l0, l1, l2] [.ref l0, .int s0] H := rn_nx rfl
theorem x160_4 (l0 l1 l2 : Value) (s0 : Nat) (s1 : Int32) (H : HS) : rn 160 4 [l0, l1, l2] [.ref s0, .int s1] H = gk 160 7 [l0, l1, l2] [.int s1] H (gfd H 5 0 s0) := (rn_ev ..).trans (ev_gk rfl)
theorem x160_7 (l0 l1 l2 : Value) (s0 : Nat) (s1 : Int32) (H : HS) : rn 160 7 [l0, l1, l2] [.ref s0, .int s1] H = rn 160 8 [l0, l1, l2] [.int 1, .ref s0, .int s1] H := rn_nx rfl
theorem x160_8 (l0 l1 l2 : Value) (s0 : Int32) (s1 : Nat) (s2 : Int32) (H : HS) : rn 160 8 [l0, l1, l2] [.int s0, .ref s1, .int s2] H = gk 160 9 [l0, l1, l2] [.int s2] H (ald H 100 s1 s0) := (rn_ev ..).trans (ev_gk rfl)
theorem x160_9 (l0 l1 l2 : Value) (s0 : Int32) (s1 : Int32) (H : HS) : rn 160 9 [l0, l1, l2] [.int s0, .int s1] H = if s1 < s0 then rn 160 12 [l0, l1, l2] [] H else rn 160 50 [l0, l1, l2] [] H := (rn_ev ..).trans (ev_bin rfl)
theorem x160_12 (l1 l2 : Value) (l0 : Nat) (H : HS) : rn 160 12 [.ref l0, l1, l2] [] H = rn 160 13 [.ref l0, l1, l2] [.ref l0] H := rn_nx rfl
theorem x160_13 (l0 l1 l2 : Value) (s0 : Nat) (H : HS) : rn 160 13 [l0, l1, l2] [.ref s0] H = gk 160 16 [l0, l1, l2] [] H (gfd H 5 0 s0) := (rn_ev ..).trans (ev_gk rfl)
theorem x160_16 (l0 l1 : Value) (l2 : Int32) (s0 : Nat) (H : HS) : rn 160 16 [l0, l1, .int l2] [.ref s0] H = rn 160 17 [l0, l1, .int l2] [.int l2, .ref s0] H := rn_nx rfl
theorem x160_17 (l0 l1 l2 : Value) (s0 : Int32) (s1 : Nat) (H : HS) : rn 160 17 [l0, l1, l2] [.int s0, .ref s1] H = bnd true 160 17 [l0, l1, l2] [.ref s1] (rcal 154 [.int s0] H) := rn_cal rfl
theorem x160_20 (l0 l1 l2 : Value) (s0 : Int32) (s1 : Nat) (H : HS) : rn 160 20 [l0, l1, l2] [.int s0, .ref s1] H = rn 160 21 [l0, l1, l2] [.int 4, .int s0, .ref s1] H := rn_nx rfl
theorem x160_21 (l0 l1 l2 : Value) (s0 : Int32) (s1 : Int32) (s2 : Nat) (H : HS) : rn 160 21 [l0, l1, l2] [.int s0, .int s1, .ref s2] H = rn 160 22 [l0, l1, l2] [.int (s1 + s0), .ref s2] H := rn_nx rfl
theorem x160_22 (l0 l1 l2 : Value) (s0 : Int32) (s1 : Nat) (H : HS) : rn 160 22 [l0, l1, l2] [.int s0, .ref s1] H = gk 160 23 [l0, l1, l2] [] H (ald H 100 s1 s0) := (rn_ev ..).trans (ev_gk rfl)
theorem x160_23 (l0 l1 l2 : Value) (s0 : Int32) (H : HS) : rn 160 23 [l0, l1, l2] [.int s0] H = rn 160 24 [l0, l1, l2] [.int 2, .int s0] H := rn_nx rfl
theorem x160_24 (l0 l1 l2 : Value) (s0 : Int32) (s1 : Int32) (H : HS) : rn 160 24 [l0, l1, l2] [.int s0, .int s1] H = if s1 = s0 then rn 160 27 [l0, l1, l2] [] H else rn 160 44 [l0, l1, l2] [] H := (rn_ev ..).trans (ev_bin rfl)
theorem x160_27 (l1 l2 : Value) (l0 : Nat) (H : HS) : rn 160 27 [.ref l0, l1, l2] [] H = rn 160 28 [.ref l0, l1, l2] [.ref l0] H := rn_nx rfl
theorem x160_28 (l0 l1 l2 : Value) (s0 : Nat) (H : HS) : rn 160 28 [l0, l1, l2] [.ref s0] H = gk 160 31 [l0, l1, l2] [] H (gfd H 5 0 s0) := (rn_ev ..).trans (ev_gk rfl)
theorem x160_31 (l0 l1 : Value) (l2 : Int32) (s0 : Nat) (H : HS) : rn 160 31 [l0, l1, .int l2] [.ref s0] H = rn 160 32 [l0, l1, .int l2] [.int l2, .ref s0] H := rn_nx rfl
theorem x160_32 (l0 l1 l2 : Value) (s0 : Int32) (s1 : Nat) (H : HS) : rn 160 32 [l0, l1, l2] [.int s0, .ref s1] H = bnd true 160 32 [l0, l1, l2] [.ref s1] (rcal 154 [.int s0] H) := rn_cal rfl
theorem x160_35 (l0 l1 l2 : Value) (s0 : Int32) (s1 : Nat) (H : HS) : rn 160 35 [l0, l1, l2] [.int s0, .ref s1] H = rn 160 36 [l0, l1, l2] [.int 5, .int s0, .ref s1] H := rn_nx rfl
theorem x160_36 (l0 l1 l2 : Value) (s0 : Int32) (s1 : Int32) (s2 : Nat) (H : HS) : rn 160 36 [l0, l1, l2] [.int s0, .int s1, .ref s2] H = rn 160 37 [l0, l1, l2] [.int (s1 + s0), .ref s2] H := rn_nx rfl
theorem x160_37 (l0 l1 l2 : Value) (s0 : Int32) (s1 : Nat) (H : HS) : rn 160 37 [l0, l1, l2] [.int s0, .ref s1] H = gk 160 38 [l0, l1, l2] [] H (ald H 100 s1 s0) := (rn_ev ..).trans (ev_gk rfl)
theorem x160_38 (l0 l2 : Value) (l1 : Int32) (s0 : Int32) (H : HS) : rn 160 38 [l0, .int l1, l2] [.int s0] H = rn 160 39 [l0, .int l1, l2] [.int l1, .int s0] H := rn_nx rfl
theorem x160_39 (l0 l1 l2 : Value) (s0 : Int32) (s1 : Int32) (H : HS) : rn 160 39 [l0, l1, l2] [.int s0, .int s1] H = if s1 = s0 then rn 160 42 [l0, l1, l2] [] H else rn 160 44 [l0, l1, l2] [] H := (rn_ev ..).trans (ev_bin rfl)
theorem x160_42 (l0 l1 : Value) (l2 : Int32) (H : HS) : rn 160 42 [l0, l1, .int l2] [] H = rn 160 43 [l0, l1, .int l2] [.int l2] H := rn_nx rfl
theorem x160_43 (l0 l1 l2 : Value) (s0 : Int32) (H : HS) : rn 160 43 [l0, l1, l2] [.int s0] H = some (.inl (some (.int s0)), H) := rn_end rfl
theorem x160_44 (l0 l1 : Value) (l2 : Int32) (H : HS) : rn 160 44 [l0, l1, .int l2] [] H = rn 160 47 [l0, (kl l1), .int (l2 + 1)] [] H := rn_nx rfl
theorem x160_47 (l0 l1 l2 : Value) (H : HS) : rn 160 47 [l0, l1, l2] [] H = rn 160 2 [l0, l1, l2] [] H := rn_nx rfl
theorem x160_50 (l0 l1 l2 : Value) (H : HS) : rn 160 50 [l0, l1, l2] [] H = rn 160 51 [l0, l1, l2] [.int (-1)] H := rn_nx rfl
theorem x160_51 (l0 l1 l2 : Value) (s0 : Int32) (H : HS) : rn 160 51 [l0, l1, l2] [.int s0] H = some (.inl (some (.int s0)), H) := rn_end rfl
theorem c160 (a0 : Nat) (a1 : Int32) (H : HS) : rcal 160 [.ref a0, .int a1] H = rn 160 0 [.ref a0, .int a1, un] [] H := rfl
theorem x161_0 (l0 l1 l2 l3 : Value) (H : HS) : rn 161 0 [l0, l1, l2, l3] [] H = rn 161 1 [l0, l1, l2, l3] [.int 0] H := rn_nx rfl
theorem x161_1 (l0 l1 l2 l3 : Value) (s0 : Int32) (H : HS) : rn 161 1 [l0, l1, l2, l3] [.int s0] H = rn 161 2 [l0, (kl l1), .int s0, l3] [] H := rn_nx rfl
theorem x161_2 (l0 l1 l2 l3 : Value) (H : HS) : rn 161 2 [l0, l1, l2, l3] [] H = rn 161 3 [l0, l1, l2, l3] [.int 0] H := rn_nx rfl
theorem x161_3 (l0 l1 l2 l3 : Value) (s0 : Int32) (H : HS) : rn 161 3 [l0, l1, l2, l3] [.int s0] H = rn 161 4 [l0, l1, (kl l2), .int s0] [] H := rn_nx rfl
theorem x161_4 (l0 l1 l2 : Value) (l3 : Int32) (H : HS) : rn 161 4 [l0, l1, l2, .int l3] [] H = rn 161 5 [l0, l1, l2, .int l3] [.int l3] H := rn_nx rfl
theorem x161_5 (l1 l2 l3 : Value) (l0 : Nat) (s0 : Int32) (H : HS) : rn 161 5 [.ref l0, l1, l2, l3] [.int s0] H = rn 161 6 [.ref l0, l1, l2, l3] [.ref l0, .int s0] H := rn_nx rfl
theorem x161_6 (l0 l1 l2 l3 : Value) (s0 : Nat) (s1 : Int32) (H : HS) : rn 161 6 [l0, l1, l2, l3] [.ref s0, .int s1] H = gk 161 9 [l0, l1, l2, l3] [.int s1] H (gfd H 5 0 s0) := (rn_ev ..).trans (ev_gk rfl)
theorem x161_9 (l0 l1 l2 l3 : Value) (s0 : Nat) (s1 : Int32) (H : HS) : rn 161 9 [l0, l1, l2, l3] [.ref s0, .int s1] H = rn 161 10 [l0, l1, l2, l3] [.int 1, .ref s0, .int s1] H := rn_nx rfl
theorem x161_10 (l0 l1 l2 l3 : Value) (s0 : Int32) (s1 : Nat) (s2 : Int32) (H : HS) : rn 161 10 [l0, l1, l2, l3] [.int s0, .ref s1, .int s2] H = gk 161 11 [l0, l1, l2, l3] [.int s2] H (ald H 100 s1 s0) := (rn_ev ..).trans (ev_gk rfl)
theorem x161_11 (l0 l1 l2 l3 : Value) (s0 : Int32) (s1 : Int32) (H : HS) : rn 161 11 [l0, l1, l2, l3] [.int s0, .int s1] H = if s1 < s0 then rn 161 14 [l0, l1, l2, l3] [] H else rn 161 58 [l0, l1, l2, l3] [] H := (rn_ev ..).trans (ev_bin rfl)
theorem x161_14 (l0 l1 l3 : Value) (l2 : Int32) (H : HS) : rn 161 14 [l0, l1, .int l2, l3] [] H = rn 161 15 [l0, l1, .int l2, l3] [.int l2] H := rn_nx rfl
theorem x161_15 (l1 l2 l3 : Value) (l0 : Nat) (s0 : Int32) (H : HS) : rn 161 15 [.ref l0, l1, l2, l3] [.int s0] H = rn 161 16 [.ref l0, l1, l2, l3] [.ref l0, .int s0] H := rn_nx rfl
theorem x161_16 (l0 l1 l2 l3 : Value) (s0 : Nat) (s1 : Int32) (H : HS) : rn 161 16 [l0, l1, l2, l3] [.ref s0, .int s1] H = gk 161 19 [l0, l1, l2, l3] [.int s1] H (gfd H 5 0 s0) := (rn_ev ..).trans (ev_gk rfl)
theorem x161_19 (l0 l1 l2 : Value) (l3 : Int32) (s0 : Nat) (s1 : Int32) (H : HS) : rn 161 19 [l0, l1, l2, .int l3] [.ref s0, .int s1] H = rn 161 20 [l0, l1, l2, .int l3] [.int l3, .ref s0, .int s1] H := rn_nx rfl
theorem x161_20 (l0 l1 l2 l3 : Value) (s0 : Int32) (s1 : Nat) (s2 : Int32) (H : HS) : rn 161 20 [l0, l1, l2, l3] [.int s0, .ref s1, .int s2] H = bnd true 161 20 [l0, l1, l2, l3] [.ref s1, .int s2] (rcal 154 [.int s0] H) := rn_cal rfl
theorem x161_23 (l0 l1 l2 l3 : Value) (s0 : Int32) (s1 : Nat) (s2 : Int32) (H : HS) : rn 161 23 [l0, l1, l2, l3] [.int s0, .ref s1, .int s2] H = rn 161 24 [l0, l1, l2, l3] [.int 4, .int s0, .ref s1, .int s2] H := rn_nx rfl
theorem x161_24 (l0 l1 l2 l3 : Value) (s0 : Int32) (s1 : Int32) (s2 : Nat) (s3 : Int32) (H : HS) : rn 161 24 [l0, l1, l2, l3] [.int s0, .int s1, .ref s2, .int s3] H = rn 161 25 [l0, l1, l2, l3] [.int (s1 + s0), .ref s2, .int s3] H := rn_nx rfl
theorem x161_25 (l0 l1 l2 l3 : Value) (s0 : Int32) (s1 : Nat) (s2 : Int32) (H : HS) : rn 161 25 [l0, l1, l2, l3] [.int s0, .ref s1, .int s2] H = gk 161 26 [l0, l1, l2, l3] [.int s2] H (ald H 100 s1 s0) := (rn_ev ..).trans (ev_gk rfl)
theorem x161_26 (l0 l1 l2 l3 : Value) (s0 : Int32) (s1 : Int32) (H : HS) : rn 161 26 [l0, l1, l2, l3] [.int s0, .int s1] H = rn 161 27 [l0, l1, l2, l3] [.int 1, .int s0, .int s1] H := rn_nx rfl
theorem x161_27 (l0 l1 l2 l3 : Value) (s0 : Int32) (s1 : Int32) (s2 : Int32) (H : HS) : rn 161 27 [l0, l1, l2, l3] [.int s0, .int s1, .int s2] H = if s1 = s0 then rn 161 30 [l0, l1, l2, l3] [.int s2] H else rn 161 49 [l0, l1, l2, l3] [.int s2] H := (rn_ev ..).trans (ev_bin rfl)
theorem x161_30 (l1 l2 l3 : Value) (l0 : Nat) (s0 : Int32) (H : HS) : rn 161 30 [.ref l0, l1, l2, l3] [.int s0] H = rn 161 31 [.ref l0, l1, l2, l3] [.ref l0, .int s0] H := rn_nx rfl
theorem x161_31 (l0 l1 l2 l3 : Value) (s0 : Nat) (s1 : Int32) (H : HS) : rn 161 31 [l0, l1, l2, l3] [.ref s0, .int s1] H = gk 161 34 [l0, l1, l2, l3] [.int s1] H (gfd H 5 0 s0) := (rn_ev ..).trans (ev_gk rfl)
theorem x161_34 (l0 l1 l2 : Value) (l3 : Int32) (s0 : Nat) (s1 : Int32) (H : HS) : rn 161 34 [l0, l1, l2, .int l3] [.ref s0, .int s1] H = rn 161 35 [l0, l1, l2, .int l3] [.int l3, .ref s0, .int s1] H := rn_nx rfl
theorem x161_35 (l0 l1 l2 l3 : Value) (s0 : Int32) (s1 : Nat) (s2 : Int32) (H : HS) : rn 161 35 [l0, l1, l2, l3] [.int s0, .ref s1, .int s2] H = bnd true 161 35 [l0, l1, l2, l3] [.ref s1, .int s2] (rcal 154 [.int s0] H) := rn_cal rfl
theorem x161_38 (l0 l1 l2 l3 : Value) (s0 : Int32) (s1 : Nat) (s2 : Int32) (H : HS) : rn 161 38 [l0, l1, l2, l3] [.int s0, .ref s1, .int s2] H = rn 161 39 [l0, l1, l2, l3] [.int 5, .int s0, .ref s1, .int s2] H := rn_nx rfl
theorem x161_39 (l0 l1 l2 l3 : Value) (s0 : Int32) (s1 : Int32) (s2 : Nat) (s3 : Int32) (H : HS) : rn 161 39 [l0, l1, l2, l3] [.int s0, .int s1, .ref s2, .int s3] H = rn 161 40 [l0, l1, l2, l3] [.int (s1 + s0), .ref s2, .int s3] H := rn_nx rfl
theorem x161_40 (l0 l1 l2 l3 : Value) (s0 : Int32) (s1 : Nat) (s2 : Int32) (H : HS) : rn 161 40 [l0, l1, l2, l3] [.int s0, .ref s1, .int s2] H = gk 161 41 [l0, l1, l2, l3] [.int s2] H (ald H 100 s1 s0) := (rn_ev ..).trans (ev_gk rfl)
theorem x161_41 (l0 l2 l3 : Value) (l1 : Int32) (s0 : Int32) (s1 : Int32) (H : HS) : rn 161 41 [l0, .int l1, l2, l3] [.int s0, .int s1] H = rn 161 42 [l0, .int l1, l2, l3] [.int l1, .int s0, .int s1] H := rn_nx rfl
theorem x161_42 (l0 l1 l2 l3 : Value) (s0 : Int32) (s1 : Int32) (s2 : Int32) (H : HS) : rn 161 42 [l0, l1, l2, l3] [.int s0, .int s1, .int s2] H = if s1 = s0 then rn 161 45 [l0, l1, l2, l3] [.int s2] H else rn 161 49 [l0, l1, l2, l3] [.int s2] H := (rn_ev ..).trans (ev_bin rfl)
theorem x161_45 (l0 l1 l2 l3 : Value) (s0 : Int32) (H : HS) : rn 161 45 [l0, l1, l2, l3] [.int s0] H = rn 161 46 [l0, l1, l2, l3] [.int 1, .int s0] H := rn_nx rfl
theorem x161_46 (l0 l1 l2 l3 : Value) (s0 : Int32) (s1 : Int32) (H : HS) : rn 161 46 [l0, l1, l2, l3] [.int s0, .int s1] H = rn 161 50 [l0, l1, l2, l3] [.int s0, .int s1] H := rn_nx rfl
theorem x161_50 (l0 l1 l2 l3 : Value) (s0 : Int32) (s1 : Int32) (H : HS) : rn 161 50 [l0, l1, l2, l3] [.int s0, .int s1] H = rn 161 51 [l0, l1, l2, l3] [.int (s1 + s0)] H := rn_nx rfl
theorem x161_51 (l0 l1 l2 l3 : Value) (s0 : Int32) (H : HS) : rn 161 51 [l0, l1, l2, l3] [.int s0] H = rn 161 52 [l0, (kl l1), .int s0, l3] [] H := rn_nx rfl
theorem x161_52 (l0 l1 l2 : Value) (l3 : Int32) (H : HS) : rn 161 52 [l0, l1, l2, .int l3] [] H = rn 161 55 [l0, l1, (kl l2), .int (l3 + 1)] [] H := rn_nx rfl
theorem x161_55 (l0 l1 l2 l3 : Value) (H : HS) : rn 161 55 [l0, l1, l2, l3] [] H = rn 161 4 [l0, l1, l2, l3] [] H := rn_nx rfl
theorem x161_49 (l0 l1 l2 l3 : Value) (s0 : Int32) (H : HS) : rn 161 49 [l0, l1, l2, l3] [.int s0] H = rn 161 50 [l0, l1, l2, l3] [.int 0, .int s0] H := rn_nx rfl
theorem x161_58 (l0 l1 l3 : Value) (l2 : Int32) (H : HS) : rn 161 58 [l0, l1, .int l2, l3] [] H = rn 161 59 [l0, l1, .int l2, l3] [.int l2] H := rn_nx rfl
theorem x161_59 (l0 l1 l2 l3 : Value) (s0 : Int32) (H : HS) : rn 161 59 [l0, l1, l2, l3] [.int s0] H = some (.inl (some (.int s0)), H) := rn_end rfl
theorem c161 (a0 : Nat) (a1 : Int32) (H : HS) : rcal 161 [.ref a0, .int a1] H = rn 161 0 [.ref a0, .int a1, un, un] [] H := rfl
theorem x162_0 (l1 l2 l3 l4 : Value) (l0 : Nat) (H : HS) : rn 162 0 [.ref l0, l1, l2, l3, l4] [] H = rn 162 1 [.ref l0, l1, l2, l3, l4] [.ref l0] H := rn_nx rfl
theorem x162_1 (l0 l2 l3 l4 : Value) (l1 : Int32) (s0 : Nat) (H : HS) : rn 162 1 [l0, .int l1, l2, l3, l4] [.ref s0] H = rn 162 2 [l0, .int l1, l2, l3, l4] [.int l1, .ref s0] H := rn_nx rfl
theorem x162_2 (l0 l1 l2 l3 l4 : Value) (s0 : Int32) (s1 : Nat) (H : HS) (h : recv H s1 5 = true) : rn 162 2 [l0, l1, l2, l3, l4] [.int s0, .ref s1] H = bnd true 162 2 [l0, l1, l2, l3, l4] [] (rcal 161 [.ref s1, .int s0] H) := rn_cal (vcal h rfl)
theorem x162_5 (l0 l1 l2 l3 l4 : Value) (s0 : Int32) (H : HS) : rn 162 5 [l0, l1, l2, l3, l4] [.int s0] H = rn 162 6 [l0, (kl l1), .int s0, l3, l4] [] H := rn_nx rfl
theorem x162_6 (l0 l1 l2 l3 l4 : Value) (H : HS) : rn 162 6 [l0, l1, l2, l3, l4] [] H = rn 162 7 [l0, l1, l2, l3, l4] [.int 0] H := rn_nx rfl
theorem x162_7 (l0 l1 l2 l3 l4 : Value) (s0 : Int32) (H : HS) : rn 162 7 [l0, l1, l2, l3, l4] [.int s0] H = rn 162 8 [l0, l1, (kl l2), .int s0, l4] [] H := rn_nx rfl
theorem x162_8 (l0 l1 l2 l4 : Value) (l3 : Int32) (H : HS) : rn 162 8 [l0, l1, l2, .int l3, l4] [] H = rn 162 9 [l0, l1, l2, .int l3, l4] [.int l3] H := rn_nx rfl
theorem x162_9 (l1 l2 l3 l4 : Value) (l0 : Nat) (s0 : Int32) (H : HS) : rn 162 9 [.ref l0, l1, l2, l3, l4] [.int s0] H = rn 162 10 [.ref l0, l1, l2, l3, l4] [.ref l0, .int s0] H := rn_nx rfl
theorem x162_10 (l0 l1 l2 l3 l4 : Value) (s0 : Nat) (s1 : Int32) (H : HS) : rn 162 10 [l0, l1, l2, l3, l4] [.ref s0, .int s1] H = gk 162 13 [l0, l1, l2, l3, l4] [.int s1] H (gfd H 5 0 s0) := (rn_ev ..).trans (ev_gk rfl)
theorem x162_13 (l0 l1 l2 l3 l4 : Value) (s0 : Nat) (s1 : Int32) (H : HS) : rn 162 13 [l0, l1, l2, l3, l4] [.ref s0, .int s1] H = rn 162 14 [l0, l1, l2, l3, l4] [.int 1, .ref s0, .int s1] H := rn_nx rfl
theorem x162_14 (l0 l1 l2 l3 l4 : Value) (s0 : Int32) (s1 : Nat) (s2 : Int32) (H : HS) : rn 162 14 [l0, l1, l2, l3, l4] [.int s0, .ref s1, .int s2] H = gk 162 15 [l0, l1, l2, l3, l4] [.int s2] H (ald H 100 s1 s0) := (rn_ev ..).trans (ev_gk rfl)
theorem x162_15 (l0 l1 l2 l3 l4 : Value) (s0 : Int32) (s1 : Int32) (H : HS) : rn 162 15 [l0, l1, l2, l3, l4] [.int s0, .int s1] H = if s1 < s0 then rn 162 18 [l0, l1, l2, l3, l4] [] H else rn 162 83 [l0, l1, l2, l3, l4] [] H := (rn_ev ..).trans (ev_bin rfl)
theorem x162_18 (l1 l2 l3 l4 : Value) (l0 : Nat) (H : HS) : rn 162 18 [.ref l0, l1, l2, l3, l4] [] H = rn 162 19 [.ref l0, l1, l2, l3, l4] [.ref l0] H := rn_nx rfl
theorem x162_19 (l0 l1 l2 l3 l4 : Value) (s0 : Nat) (H : HS) : rn 162 19 [l0, l1, l2, l3, l4] [.ref s0] H = gk 162 22 [l0, l1, l2, l3, l4] [] H (gfd H 5 0 s0) := (rn_ev ..).trans (ev_gk rfl)
theorem x162_22 (l0 l1 l2 l4 : Value) (l3 : Int32) (s0 : Nat) (H : HS) : rn 162 22 [l0, l1, l2, .int l3, l4] [.ref s0] H = rn 162 23 [l0, l1, l2, .int l3, l4] [.int l3, .ref s0] H := rn_nx rfl
theorem x162_23 (l0 l1 l2 l3 l4 : Value) (s0 : Int32) (s1 : Nat) (H : HS) : rn 162 23 [l0, l1, l2, l3, l4] [.int s0, .ref s1] H = bnd true 162 23 [l0, l1, l2, l3, l4] [.ref s1] (rcal 154 [.int s0] H) := rn_cal rfl
theorem x162_26 (l0 l1 l2 l3 l4 : Value) (s0 : Int32) (s1 : Nat) (H : HS) : rn 162 26 [l0, l1, l2, l3, l4] [.int s0, .ref s1] H = rn 162 27 [l0, l1, l2, l3, l4] [.int 4, .int s0, .ref s1] H := rn_nx rfl
theorem x162_27 (l0 l1 l2 l3 l4 : Value) (s0 : Int32) (s1 : Int32) (s2 : Nat) (H : HS) : rn 162 27 [l0, l1, l2, l3, l4] [.int s0, .int s1, .ref s2] H = rn 162 28 [l0, l1, l2, l3, l4] [.int (s1 + s0), .ref s2] H := rn_nx rfl
theorem x162_28 (l0 l1 l2 l3 l4 : Value) (s0 : Int32) (s1 : Nat) (H : HS) : rn 162 28 [l0, l1, l2, l3, l4] [.int s0, .ref s1] H = gk 162 29 [l0, l1, l2, l3, l4] [] H (ald H 100 s1 s0) := (rn_ev ..).trans (ev_gk rfl)
theorem x162_29 (l0 l1 l2 l3 l4 : Value) (s0 : Int32) (H : HS) : rn 162 29 [l0, l1, l2, l3, l4] [.int s0] H = rn 162 30 [l0, l1, l2, l3, l4] [.int 2, .int s0] H := rn_nx rfl
theorem x162_30 (l0 l1 l2 l3 l4 : Value) (s0 : Int32) (s1 : Int32) (H : HS) : rn 162 30 [l0, l1, l2, l3, l4] [.int s0, .int s1] H = if s1 = s0 then rn 162 33 [l0, l1, l2, l3, l4] [] H else rn 162 46 [l0, l1, l2, l3, l4] [] H := (rn_ev ..).trans (ev_bin rfl)
theorem x162_33 (l1 l2 l3 l4 : Value) (l0 : Nat) (H : HS) : rn 162 33 [.ref l0, l1, l2, l3, l4] [] H = rn 162 34 [.ref l0, l1, l2, l3, l4] [.ref l0] H := rn_nx rfl
theorem x162_34 (l0 l1 l2 l4 : Value) (l3 : Int32) (s0 : Nat) (H : HS) : rn 162 34 [l0, l1, l2, .int l3, l4] [.ref s0] H = rn 162 35 [l0, l1, l2, .int l3, l4] [.int l3, .ref s0] H := rn_nx rfl
theorem x162_35 (l0 l1 l2 l3 l4 : Value) (s0 : Int32) (s1 : Nat) (H : HS) (h : recv H s1 5 = true) : rn 162 35 [l0, l1, l2, l3, l4] [.int s0, .ref s1] H = bnd true 162 35 [l0, l1, l2, l3, l4] [] (rcal 159 [.ref s1, .int s0] H) := rn_cal (vcal h rfl)
theorem x162_38 (l0 l2 l3 l4 : Value) (l1 : Int32) (s0 : Int32) (H : HS) : rn 162 38 [l0, .int l1, l2, l3, l4] [.int s0] H = rn 162 39 [l0, .int l1, l2, l3, l4] [.int l1, .int s0] H := rn_nx rfl
theorem x162_39 (l0 l1 l2 l3 l4 : Value) (s0 : Int32) (s1 : Int32) (H : HS) : rn 162 39 [l0, l1, l2, l3, l4] [.int s0, .int s1] H = if s1 = s0 then rn 162 42 [l0, l1, l2, l3, l4] [] H else rn 162 46 [l0, l1, l2, l3, l4] [] H := (rn_ev ..).trans (ev_bin rfl)
theorem x162_42 (l0 l1 l2 l3 l4 : Value) (H : HS) : rn 162 42 [l0, l1, l2, l3, l4] [] H = rn 162 43 [l0, l1, l2, l3, l4] [.int 1] H := rn_nx rfl
theorem x162_43 (l0 l1 l2 l3 l4 : Value) (s0 : Int32) (H : HS) : rn 162 43 [l0, l1, l2, l3, l4] [.int s0] H = rn 162 47 [l0, l1, l2, l3, l4] [.int s0] H := rn_nx rfl
theorem x162_47 (l0 l1 l2 l3 l4 : Value) (s0 : Int32) (H : HS) : rn 162 47 [l0, l1, l2, l3, l4] [.int s0] H = rn 162 49 [l0, l1, l2, (kl l3), .int s0] [] H := rn_nx rfl
theorem x162_49 (l0 l1 l3 l4 : Value) (l2 : Int32) (H : HS) : rn 162 49 [l0, l1, .int l2, l3, l4] [] H = rn 162 50 [l0, l1, .int l2, l3, l4] [.int l2] H := rn_nx rfl
theorem x162_50 (l0 l1 l2 l3 : Value) (l4 : Int32) (s0 : Int32) (H : HS) : rn 162 50 [l0, l1, l2, l3, .int l4] [.int s0] H = rn 162 52 [l0, l1, l2, l3, .int l4] [.int l4, .int s0] H := rn_nx rfl
theorem x162_52 (l0 l1 l2 l3 l4 : Value) (s0 : Int32) (s1 : Int32) (H : HS) : rn 162 52 [l0, l1, l2, l3, l4] [.int s0, .int s1] H = if s0 = 0 then rn 162 74 [l0, l1, l2, l3, l4] [.int s1] H else rn 162 55 [l0, l1, l2, l3, l4] [.int s1] H := (rn_ev ..).trans (ev_bif rfl)
theorem x162_55 (l1 l2 l3 l4 : Value) (l0 : Nat) (s0 : Int32) (H : HS) : rn 162 55 [.ref l0, l1, l2, l3, l4] [.int s0] H = rn 162 56 [.ref l0, l1, l2, l3, l4] [.ref l0, .int s0] H := rn_nx rfl
theorem x162_56 (l0 l1 l2 l3 l4 : Value) (s0 : Nat) (s1 : Int32) (H : HS) : rn 162 56 [l0, l1, l2, l3, l4] [.ref s0, .int s1] H = gk 162 59 [l0, l1, l2, l3, l4] [.int s1] H (gfd H 5 0 s0) := (rn_ev ..).trans (ev_gk rfl)
theorem x162_59 (l0 l1 l2 l4 : Value) (l3 : Int32) (s0 : Nat) (s1 : Int32) (H : HS) : rn 162 59 [l0, l1, l2, .int l3, l4] [.ref s0, .int s1] H = rn 162 60 [l0, l1, l2, .int l3, l4] [.int l3, .ref s0, .int s1] H := rn_nx rfl
theorem x162_60 (l0 l1 l2 l3 l4 : Value) (s0 : Int32) (s1 : Nat) (s2 : Int32) (H : HS) : rn 162 60 [l0, l1, l2, l3, l4] [.int s0, .ref s1, .int s2] H = bnd true 162 60 [l0, l1, l2, l3, l4] [.ref s1, .int s2] (rcal 154 [.int s0] H) := rn_cal rfl
theorem x162_63 (l0 l1 l2 l3 l4 : Value) (s0 : Int32) (s1 : Nat) (s2 : Int32) (H : HS) : rn 162 63 [l0, l1, l2, l3, l4] [.int s0, .ref s1, .int s2] H = rn 162 64 [l0, l1, l2, l3, l4] [.int 2, .int s0, .ref s1, .int s2] H := rn_nx rfl
theorem x162_64 (l0 l1 l2 l3 l4 : Value) (s0 : Int32) (s1 : Int32) (s2 : Nat) (s3 : Int32) (H : HS) : rn 162 64 [l0, l1, l2, l3, l4] [.int s0, .int s1, .ref s2, .int s3] H = rn 162 65 [l0, l1, l2, l3, l4] [.int (s1 + s0), .ref s2, .int s3] H := rn_nx rfl
theorem x162_65 (l0 l1 l2 l3 l4 : Value) (s0 : Int32) (s1 : Nat) (s2 : Int32) (H : HS) : rn 162 65 [l0, l1, l2, l3, l4] [.int s0, .ref s1, .int s2] H = gk 162 66 [l0, l1, l2, l3, l4] [.int s2] H (ald H 100 s1 s0) := (rn_ev ..).trans (ev_gk rfl)
theorem x162_66 (l0 l2 l3 l4 : Value) (l1 : Int32) (s0 : Int32) (s1 : Int32) (H : HS) : rn 162 66 [l0, .int l1, l2, l3, l4] [.int s0, .int s1] H = rn 162 67 [l0, .int l1, l2, l3, l4] [.int l1, .int s0, .int s1] H := rn_nx rfl
theorem x162_67 (l0 l1 l2 l3 l4 : Value) (s0 : Int32) (s1 : Int32) (s2 : Int32) (H : HS) : rn 162 67 [l0, l1, l2, l3, l4] [.int s0, .int s1, .int s2] H = if s1 = s0 then rn 162 74 [l0, l1, l2, l3, l4] [.int s2] H else rn 162 70 [l0, l1, l2, l3, l4] [.int s2] H := (rn_ev ..).trans (ev_bif rfl)
theorem x162_70 (l0 l1 l2 l3 l4 : Value) (s0 : Int32) (H : HS) : rn 162 70 [l0, l1, l2, l3, l4] [.int s0] H = rn 162 71 [l0, l1, l2, l3, l4] [.int 1, .int s0] H := rn_nx rfl
theorem x162_71 (l0 l1 l2 l3 l4 : Value) (s0 : Int32) (s1 : Int32) (H : HS) : rn 162 71 [l0, l1, l2, l3, l4] [.int s0, .int s1] H = rn 162 75 [l0, l1, l2, l3, l4] [.int s0, .int s1] H := rn_nx rfl
theorem x162_75 (l0 l1 l2 l3 l4 : Value) (s0 : Int32) (s1 : Int32) (H : HS) : rn 162 75 [l0, l1, l2, l3, l4] [.int s0, .int s1] H = rn 162 76 [l0, l1, l2, l3, l4] [.int (s1 + s0)] H := rn_nx rfl
theorem x162_76 (l0 l1 l2 l3 l4 : Value) (s0 : Int32) (H : HS) : rn 162 76 [l0, l1, l2, l3, l4] [.int s0] H = rn 162 77 [l0, (kl l1), .int s0, l3, l4] [] H := rn_nx rfl
theorem x162_77 (l0 l1 l2 l4 : Value) (l3 : Int32) (H : HS) : rn 162 77 [l0, l1, l2, .int l3, l4] [] H = rn 162 80 [l0, l1, (kl l2), .int (l3 + 1), l4] [] H := rn_nx rfl
theorem x162_80 (l0 l1 l2 l3 l4 : Value) (H : HS) : rn 162 80 [l0, l1, l2, l3, l4] [] H = rn 162 8 [l0, l1, l2, l3, l4] [] H := rn_nx rfl
theorem x162_74 (l0 l1 l2 l3 l4 : Value) (s0 : Int32) (H : HS) : rn 162 74 [l0, l1, l2, l3, l4] [.int s0] H = rn 162 75 [l0, l1, l2, l3, l4] [.int 0, .int s0] H := rn_nx rfl
theorem x162_46 (l0 l1 l2 l3 l4 : Value) (H : HS) : rn 162 46 [l0, l1, l2, l3, l4] [] H = rn 162 47 [l0, l1, l2, l3, l4] [.int 0] H := rn_nx rfl
theorem x162_83 (l0 l1 l3 l4 : Value) (l2 : Int32) (H : HS) : rn 162 83 [l0, l1, .int l2, l3, l4] [] H = rn 162 84 [l0, l1, .int l2, l3, l4] [.int l2] H := rn_nx rfl
theorem x162_84 (l0 l1 l2 l3 l4 : Value) (s0 : Int32) (H : HS) : rn 162 84 [l0, l1, l2, l3, l4] [.int s0] H = some (.inl (some (.int s0)), H) := rn_end rfl
theorem c162 (a0 : Nat) (a1 : Int32) (H : HS) : rcal 162 [.ref a0, .int a1] H = rn 162 0 [.ref a0, .int a1, un, un, un] [] H := rfl
theorem x163_0 (l1 : Value) (l0 : Nat) (H : HS) : rn 163 0 [.ref l0, l1] [] H = rn 163 1 [.ref l0, l1] [.ref l0] H := rn_nx rfl
theorem x163_1 (l0 l1 : Value) (s0 : Nat) (H : HS) : rn 163 1 [l0, l1] [.ref s0] H = gk 163 4 [l0, l1] [] H (gfd H 5 0 s0) := (rn_ev ..).trans (ev_gk rfl)
theorem x163_4 (l0 l1 : Value) (s0 : Nat) (H : HS) : rn 163 4 [l0, l1] [.ref s0] H = rn 163 6 [l0, l1] [.int 9, .ref s0] H := rn_nx rfl
theorem x163_6 (l0 : Value) (l1 : Int32) (s0 : Int32) (s1 : Nat) (H : HS) : rn 163 6 [l0, .int l1] [.int s0, .ref s1] H = rn 163 7 [l0, .int l1] [.int l1, .int s0, .ref s1] H := rn_nx rfl
theorem x163_7 (l0 l1 : Value) (s0 : Int32) (s1 : Int32) (s2 : Nat) (H : HS) : rn 163 7 [l0, l1] [.int s0, .int s1, .ref s2] H = rn 163 8 [l0, l1] [.int (s1 + s0), .ref s2] H := rn_nx rfl
theorem x163_8 (l0 l1 : Value) (s0 : Int32) (s1 : Nat) (H : HS) : rn 163 8 [l0, l1] [.int s0, .ref s1] H = gk 163 9 [l0, l1] [] H (ald H 100 s1 s0) := (rn_ev ..).trans (ev_gk rfl)
theorem x163_9 (l1 : Value) (l0 : Nat) (s0 : Int32) (H : HS) : rn 163 9 [.ref l0, l1] [.int s0] H = rn 163 10 [.ref l0, l1] [.ref l0, .int s0] H := rn_nx rfl
theorem x163_10 (l0 : Value) (l1 : Int32) (s0 : Nat) (s1 : Int32) (H : HS) : rn 163 10 [l0, .int l1] [.ref s0, .int s1] H = rn 163 11 [l0, .int l1] [.int l1, .ref s0, .int s1] H := rn_nx rfl
theorem x163_11 (l0 l1 : Value) (s0 : Int32) (s1 : Nat) (s2 : Int32) (H : HS) (h : recv H s1 5 = true) : rn 163 11 [l0, l1] [.int s0, .ref s1, .int s2] H = bnd true 163 11 [l0, l1] [.int s2] (rcal 162 [.ref s1, .int s0] H) := rn_cal (vcal h rfl)
theorem x163_14 (l0 l1 : Value) (s0 : Int32) (s1 : Int32) (H : HS) : rn 163 14 [l0, l1] [.int s0, .int s1] H = rn 163 15 [l0, l1] [.int (s1 - s0)] H := rn_nx rfl
theorem x163_15 (l0 l1 : Value) (s0 : Int32) (H : HS) : rn 163 15 [l0, l1] [.int s0] H = some (.inl (some (.int s0)), H) := rn_end rfl
theorem c163 (a0 : Nat) (a1 : Int32) (H : HS) : rcal 163 [.ref a0, .int a1] H = rn 163 0 [.ref a0, .int a1] [] H := rfl
theorem x164_0 (l0 l1 l2 l3 l4 : Value) (H : HS) : rn 164 0 [l0, l1, l2, l3, l4] [] H = rn 164 1 [l0, l1, l2, l3, l4] [.int 0] H := rn_nx rfl
theorem x164_1 (l0 l1 l2 l3 l4 : Value) (s0 : Int32) (H : HS) : rn 164 1 [l0, l1, l2, l3, l4] [.int s0] H = rn 164 2 [l0, l1, (kl l2), .int s0, l4] [] H := rn_nx rfl
theorem x164_2 (l0 l2 l3 l4 : Value) (l1 : Int32) (H : HS) : rn 164 2 [l0, .int l1, l2, l3, l4] [] H = rn 164 3 [l0, .int l1, l2, l3, l4] [.int l1] H := rn_nx rfl
theorem x164_3 (l0 l1 l3 l4 : Value) (l2 : Int32) (s0 : Int32) (H : HS) : rn 164 3 [l0, l1, .int l2, l3, l4] [.int s0] H = rn 164 4 [l0, l1, .int l2, l3, l4] [.int l2, .int s0] H := rn_nx rfl
theorem x164_4 (l0 l1 l2 l3 l4 : Value) (s0 : Int32) (s1 : Int32) (H : HS) : rn 164 4 [l0, l1, l2, l3, l4] [.int s0, .int s1] H = rn 164 7 [l0, l1, l2, l3, l4] [.int (if s0 < s1 then s0 else s1)] H := rn_nx rfl
theorem x164_7 (l0 l1 l2 l3 l4 : Value) (s0 : Int32) (H : HS) : rn 164 7 [l0, l1, l2, l3, l4] [.int s0] H = rn 164 9 [l0, l1, l2, (kl l3), .int s0] [] H := rn_nx rfl
theorem x164_9 (l0 l1 l2 l3 : Value) (l4 : Int32) (H : HS) : rn 164 9 [l0, l1, l2, l3, .int l4] [] H = rn 164 11 [l0, l1, l2, l3, .int l4] [.int l4] H := rn_nx rfl
theorem x164_11 (l0 l2 l3 l4 : Value) (l1 : Int32) (s0 : Int32) (H : HS) : rn 164 11 [l0, .int l1, l2, l3, l4] [.int s0] H = rn 164 12 [l0, .int l1, l2, l3, l4] [.int l1, .int s0] H := rn_nx rfl
theorem x164_12 (l0 l1 l3 l4 : Value) (l2 : Int32) (s0 : Int32) (s1 : Int32) (H : HS) : rn 164 12 [l0, l1, .int l2, l3, l4] [.int s0, .int s1] H = rn 164 13 [l0, l1, .int l2, l3, l4] [.int l2, .int s0, .int s1] H := rn_nx rfl
theorem x164_13 (l0 l1 l2 l3 l4 : Value) (s0 : Int32) (s1 : Int32) (s2 : Int32) (H : HS) : rn 164 13 [l0, l1, l2, l3, l4] [.int s0, .int s1, .int s2] H = rn 164 16 [l0, l1, l2, l3, l4] [.int (if s1 < s0 then s0 else s1), .int s2] H := rn_nx rfl
theorem x164_16 (l0 l1 l2 l3 l4 : Value) (s0 : Int32) (s1 : Int32) (H : HS) : rn 164 16 [l0, l1, l2, l3, l4] [.int s0, .int s1] H = if s1 < s0 then rn 164 19 [l0, l1, l2, l3, l4] [] H else rn 164 38 [l0, l1, l2, l3, l4] [] H := (rn_ev ..).trans (ev_bin rfl)
theorem x164_19 (l0 l1 l2 l4 : Value) (l3 : Int32) (H : HS) : rn 164 19 [l0, l1, l2, .int l3, l4] [] H = rn 164 20 [l0, l1, l2, .int l3, l4] [.int l3] H := rn_nx rfl
theorem x164_20 (l1 l2 l3 l4 : Value) (l0 : Nat) (s0 : Int32) (H : HS) : rn 164 20 [.ref l0, l1, l2, l3, l4] [.int s0] H = rn 164 21 [.ref l0, l1, l2, l3, l4] [.ref l0, .int s0] H := rn_nx rfl
theorem x164_21 (l0 l1 l2 l3 l4 : Value) (s0 : Nat) (s1 : Int32) (H : HS) : rn 164 21 [l0, l1, l2, l3, l4] [.ref s0, .int s1] H = gk 164 24 [l0, l1, l2, l3, l4] [.int s1] H (gfd H 5 0 s0) := (rn_ev ..).trans (ev_gk rfl)
theorem x164_24 (l0 l1 l2 l3 l4 : Value) (s0 : Nat) (s1 : Int32) (H : HS) : rn 164 24 [l0, l1, l2, l3, l4] [.ref s0, .int s1] H = rn 164 26 [l0, l1, l2, l3, l4] [.int 16, .ref s0, .int s1] H := rn_nx rfl
theorem x164_26 (l0 l1 l2 l3 : Value) (l4 : Int32) (s0 : Int32) (s1 : Nat) (s2 : Int32) (H : HS) : rn 164 26 [l0, l1, l2, l3, .int l4] [.int s0, .ref s1, .int s2] H = rn 164 28 [l0, l1, l2, l3, .int l4] [.int l4, .int s0, .ref s1, .int s2] H := rn_nx rfl
theorem x164_28 (l0 l1 l2 l3 l4 : Value) (s0 : Int32) (s1 : Int32) (s2 : Nat) (s3 : Int32) (H : HS) : rn 164 28 [l0, l1, l2, l3, l4] [.int s0, .int s1, .ref s2, .int s3] H = rn 164 29 [l0, l1, l2, l3, l4] [.int (s1 + s0), .ref s2, .int s3] H := rn_nx rfl
theorem x164_29 (l0 l1 l2 l3 l4 : Value) (s0 : Int32) (s1 : Nat) (s2 : Int32) (H : HS) : rn 164 29 [l0, l1, l2, l3, l4] [.int s0, .ref s1, .int s2] H = gk 164 30 [l0, l1, l2, l3, l4] [.int s2] H (ald H 100 s1 s0) := (rn_ev ..).trans (ev_gk rfl)
theorem x164_30 (l0 l1 l2 l3 l4 : Value) (s0 : Int32) (s1 : Int32) (H : HS) : rn 164 30 [l0, l1, l2, l3, l4] [.int s0, .int s1] H = rn 164 31 [l0, l1, l2, l3, l4] [.int (s1 + s0)] H := rn_nx rfl
theorem x164_31 (l0 l1 l2 l3 l4 : Value) (s0 : Int32) (H : HS) : rn 164 31 [l0, l1, l2, l3, l4] [.int s0] H = rn 164 32 [l0, l1, (kl l2), .int s0, l4] [] H := rn_nx rfl
theorem x164_32 (l0 l1 l2 l3 : Value) (l4 : Int32) (H : HS) : rn 164 32 [l0, l1, l2, l3, .int l4] [] H = rn 164 35 [l0, l1, l2, (kl l3), .int (l4 + 1)] [] H := rn_nx rfl
theorem x164_35 (l0 l1 l2 l3 l4 : Value) (H : HS) : rn 164 35 [l0, l1, l2, l3, l4] [] H = rn 164 9 [l0, l1, l2, l3, l4] [] H := rn_nx rfl
theorem x164_38 (l0 l1 l2 l4 : Value) (l3 : Int32) (H : HS) : rn 164 38 [l0, l1, l2, .int l3, l4] [] H = rn 164 39 [l0, l1, l2, .int l3, l4] [.int l3] H := rn_nx rfl
theorem x164_39 (l0 l1 l2 l3 l4 : Value) (s0 : Int32) (H : HS) : rn 164 39 [l0, l1, l2, l3, l4] [.int s0] H = some (.inl (some (.int s0)), H) := rn_end rfl
theorem c164 (a0 : Nat) (a1 : Int32) (a2 : Int32) (H : HS) : rcal 164 [.ref a0, .int a1, .int a2] H = rn 164 0 [.ref a0, .int a1, .int a2, un, un] [] H := rfl
theorem x165_0 (l1 l2 l3 : Value) (l0 : Nat) (H : HS) : rn 165 0 [.ref l0, l1, l2, l3] [] H = rn 165 1 [.ref l0, l1, l2, l3] [.ref l0] H := rn_nx rfl
theorem x165_1 (l0 l1 l2 l3 : Value) (s0 : Nat) (H : HS) : rn 165 1 [l0, l1, l2, l3] [.ref s0] H = gk 165 4 [l0, l1, l2, l3] [] H (gfd H 5 0 s0) := (rn_ev ..).trans (ev_gk rfl)
theorem x165_4 (l0 l2 l3 : Value) (l1 : Int32) (s0 : Nat) (H : HS) : rn 165 4 [l0, .int l1, l2, l3] [.ref s0] H = rn 165 5 [l0, .int l1, l2, l3] [.int l1, .ref s0] H := rn_nx rfl
theorem x165_5 (l0 l1 l2 l3 : Value) (s0 : Int32) (s1 : Nat) (H : HS) : rn 165 5 [l0, l1, l2, l3] [.int s0, .ref s1] H = bnd true 165 5 [l0, l1, l2, l3] [.ref s1] (rcal 154 [.int s0] H) := rn_cal rfl
theorem x165_8 (l0 l1 l2 l3 : Value) (s0 : Int32) (s1 : Nat) (H : HS) : rn 165 8 [l0, l1, l2, l3] [.int s0, .ref s1] H = rn 165 9 [l0, l1, l2, l3] [.int 1, .int s0, .ref s1] H := rn_nx rfl
theorem x165_9 (l0 l1 l2 l3 : Value) (s0 : Int32) (s1 : Int32) (s2 : Nat) (H : HS) : rn 165 9 [l0, l1, l2, l3] [.int s0, .int s1, .ref s2] H = rn 165 10 [l0, l1, l2, l3] [.int (s1 + s0), .ref s2] H := rn_nx rfl
theorem x165_10 (l0 l1 l2 l3 : Value) (s0 : Int32) (s1 : Nat) (H : HS) : rn 165 10 [l0, l1, l2, l3] [.int s0, .ref s1] H = gk 165 11 [l0, l1, l2, l3] [] H (ald H 100 s1 s0) := (rn_ev ..).trans (ev_gk rfl)
theorem x165_11 (l0 l1 l2 l3 : Value) (s0 : Int32) (H : HS) : rn 165 11 [l0, l1, l2, l3] [.int s0] H = rn 165 12 [l0, (kl l1), .int s0, l3] [] H := rn_nx rfl
theorem x165_12 (l1 l2 l3 : Value) (l0 : Nat) (H : HS) : rn 165 12 [.ref l0, l1, l2, l3] [] H = rn 165 13 [.ref l0, l1, l2, l3] [.ref l0] H := rn_nx rfl
theorem x165_13 (l0 l1 l2 l3 : Value) (s0 : Nat) (H : HS) : rn 165 13 [l0, l1, l2, l3] [.ref s0] H = gk 165 16 [l0, l1, l2, l3] [] H (gfd H 5 0 s0) := (rn_ev ..).trans (ev_gk rfl)
theorem x165_16 (l0 l2 l3 : Value) (l1 : Int32) (s0 : Nat) (H : HS) : rn 165 16 [l0, .int l1, l2, l3] [.ref s0] H = rn 165 17 [l0, .int l1, l2, l3] [.int l1, .ref s0] H := rn_nx rfl
theorem x165_17 (l0 l1 l2 l3 : Value) (s0 : Int32) (s1 : Nat) (H : HS) : rn 165 17 [l0, l1, l2, l3] [.int s0, .ref s1] H = bnd true 165 17 [l0, l1, l2, l3] [.ref s1] (rcal 154 [.int s0] H) := rn_cal rfl
theorem x165_20 (l0 l1 l2 l3 : Value) (s0 : Int32) (s1 : Nat) (H : HS) : rn 165 20 [l0, l1, l2, l3] [.int s0, .ref s1] H = rn 165 21 [l0, l1, l2, l3] [.int 2, .int s0, .ref s1] H := rn_nx rfl
theorem x165_21 (l0 l1 l2 l3 : Value) (s0 : Int32) (s1 : Int32) (s2 : Nat) (H : HS) : rn 165 21 [l0, l1, l2, l3] [.int s0, .int s1, .ref s2] H = rn 165 22 [l0, l1, l2, l3] [.int (s1 + s0), .ref s2] H := rn_nx rfl
theorem x165_22 (l0 l1 l2 l3 : Value) (s0 : Int32) (s1 : Nat) (H : HS) : rn 165 22 [l0, l1, l2, l3] [.int s0, .ref s1] H = gk 165 23 [l0, l1, l2, l3] [] H (ald H 100 s1 s0) := (rn_ev ..).trans (ev_gk rfl)
theorem x165_23 (l0 l1 l2 l3 : Value) (s0 : Int32) (H : HS) : rn 165 23 [l0, l1, l2, l3] [.int s0] H = rn 165 24 [l0, l1, (kl l2), .int s0] [] H := rn_nx rfl
theorem x165_24 (l1 l2 l3 : Value) (l0 : Nat) (H : HS) : rn 165 24 [.ref l0, l1, l2, l3] [] H = rn 165 25 [.ref l0, l1, l2, l3] [.ref l0] H := rn_nx rfl
theorem x165_25 (l0 l1 l2 l3 : Value) (s0 : Nat) (H : HS) : rn 165 25 [l0, l1, l2, l3] [.ref s0] H = gk 165 28 [l0, l1, l2, l3] [] H (gfd H 5 0 s0) := (rn_ev ..).trans (ev_gk rfl)
theorem x165_28 (l0 l2 l3 : Value) (l1 : Int32) (s0 : Nat) (H : HS) : rn 165 28 [l0, .int l1, l2, l3] [.ref s0] H = rn 165 29 [l0, .int l1, l2, l3] [.int l1, .ref s0] H := rn_nx rfl
theorem x165_29 (l0 l1 l2 l3 : Value) (s0 : Int32) (s1 : Nat) (H : HS) : rn 165 29 [l0, l1, l2, l3] [.int s0, .ref s1] H = bnd true 165 29 [l0, l1, l2, l3] [.ref s1] (rcal 154 [.int s0] H) := rn_cal rfl
theorem x165_32 (l0 l1 l2 l3 : Value) (s0 : Int32) (s1 : Nat) (H : HS) : rn 165 32 [l0, l1, l2, l3] [.int s0, .ref s1] H = rn 165 33 [l0, l1, l2, l3] [.int 3, .int s0, .ref s1] H := rn_nx rfl
theorem x165_33 (l0 l1 l2 l3 : Value) (s0 : Int32) (s1 : Int32) (s2 : Nat) (H : HS) : rn 165 33 [l0, l1, l2, l3] [.int s0, .int s1, .ref s2] H = rn 165 34 [l0, l1, l2, l3] [.int (s1 + s0), .ref s2] H := rn_nx rfl
theorem x165_34 (l0 l1 l2 l3 : Value) (s0 : Int32) (s1 : Nat) (H : HS) : rn 165 34 [l0, l1, l2, l3] [.int s0, .ref s1] H = gk 165 35 [l0, l1, l2, l3] [] H (ald H 100 s1 s0) := (rn_ev ..).trans (ev_gk rfl)
theorem x165_35 (l1 l2 l3 : Value) (l0 : Nat) (s0 : Int32) (H : HS) : rn 165 35 [.ref l0, l1, l2, l3] [.int s0] H = rn 165 36 [.ref l0, l1, l2, l3] [.ref l0, .int s0] H := rn_nx rfl
theorem x165_36 (l0 l1 l3 : Value) (l2 : Int32) (s0 : Nat) (s1 : Int32) (H : HS) : rn 165 36 [l0, l1, .int l2, l3] [.ref s0, .int s1] H = rn 165 37 [l0, l1, .int l2, l3] [.int l2, .ref s0, .int s1] H := rn_nx rfl
theorem x165_37 (l0 l1 l2 : Value) (l3 : Int32) (s0 : Int32) (s1 : Nat) (s2 : Int32) (H : HS) : rn 165 37 [l0, l1, l2, .int l3] [.int s0, .ref s1, .int s2] H = rn 165 38 [l0, l1, l2, .int l3] [.int l3, .int s0, .ref s1, .int s2] H := rn_nx rfl
theorem x165_38 (l0 l1 l2 l3 : Value) (s0 : Int32) (s1 : Int32) (s2 : Nat) (s3 : Int32) (H : HS) (h : recv H s2 5 = true) : rn 165 38 [l0, l1, l2, l3] [.int s0, .int s1, .ref s2, .int s3] H = bnd true 165 38 [l0, l1, l2, l3] [.int s3] (rcal 164 [.ref s2, .int s1, .int s0] H) := rn_cal (vcal h rfl)
theorem x165_41 (l0 l1 l2 l3 : Value) (s0 : Int32) (s1 : Int32) (H : HS) : rn 165 41 [l0, l1, l2, l3] [.int s0, .int s1] H = rn 165 42 [l0, l1, l2, l3] [.int (s1 + s0)] H := rn_nx rfl
theorem x165_42 (l0 l1 l2 : Value) (l3 : Int32) (s0 : Int32) (H : HS) : rn 165 42 [l0, l1, l2, .int l3] [.int s0] H = rn 165 43 [l0, l1, l2, .int l3] [.int l3, .int s0] H := rn_nx rfl
theorem x165_43 (l0 l1 l3 : Value) (l2 : Int32) (s0 : Int32) (s1 : Int32) (H : HS) : rn 165 43 [l0, l1, .int l2, l3] [.int s0, .int s1] H = rn 165 44 [l0, l1, .int l2, l3] [.int l2, .int s0, .int s1] H := rn_nx rfl
theorem x165_44 (l0 l1 l2 l3 : Value) (s0 : Int32) (s1 : Int32) (s2 : Int32) (H : HS) : rn 165 44 [l0, l1, l2, l3] [.int s0, .int s1, .int s2] H = rn 165 45 [l0, l1, l2, l3] [.int (s1 - s0), .int s2] H := rn_nx rfl
theorem x165_45 (l0 l1 l2 l3 : Value) (s0 : Int32) (s1 : Int32) (H : HS) : rn 165 45 [l0, l1, l2, l3] [.int s0, .int s1] H = rn 165 48 [l0, l1, l2, l3] [.int (if 0 ≤ s0 then s0 else 0 - s0), .int s1] H := rn_nx rfl
theorem x165_48 (l0 l1 l2 l3 : Value) (s0 : Int32) (s1 : Int32) (H : HS) : rn 165 48 [l0, l1, l2, l3] [.int s0, .int s1] H = rn 165 49 [l0, l1, l2, l3] [.int (s1 + s0)] H := rn_nx rfl
theorem x165_49 (l0 l1 l2 l3 : Value) (s0 : Int32) (H : HS) : rn 165 49 [l0, l1, l2, l3] [.int s0] H = some (.inl (some (.int s0)), H) := rn_end rfl
theorem c165 (a0 : Nat) (a1 : Int32) (H : HS) : rcal 165 [.ref a0, .int a1] H = rn 165 0 [.ref a0, .int a1, un, un] [] H := rfl
theorem x166_0 (l0 l2 : Value) (l1 : Int32) (H : HS) : rn 166 0 [l0, .int l1, l2] [] H = rn 166 1 [l0, .int l1, l2] [.int l1] H := rn_nx rfl
theorem x166_1 (l0 l1 l2 : Value) (s0 : Int32) (H : HS) : rn 166 1 [l0, l1, l2] [.int s0] H = bnd true 166 1 [l0, l1, l2] [] (rcal 154 [.int s0] H) := rn_cal rfl
theorem x166_4 (l0 l1 l2 : Value) (s0 : Int32) (H : HS) : rn 166 4 [l0, l1, l2] [.int s0] H = rn 166 5 [l0, (kl l1), .int s0] [] H := rn_nx rfl
theorem x166_5 (l0 l1 : Value) (l2 : Int32) (H : HS) : rn 166 5 [l0, l1, .int l2] [] H = rn 166 6 [l0, l1, .int l2] [.int l2] H := rn_nx rfl
theorem x166_6 (l0 l1 l2 : Value) (s0 : Int32) (H : HS) : rn 166 6 [l0, l1, l2] [.int s0] H = rn 166 8 [l0, l1, l2] [.int 67, .int s0] H := rn_nx rfl
theorem x166_8 (l0 l1 l2 : Value) (s0 : Int32) (s1 : Int32) (H : HS) : rn 166 8 [l0, l1, l2] [.int s0, .int s1] H = if s1 < s0 then rn 166 11 [l0, l1, l2] [] H else rn 166 32 [l0, l1, l2] [] H := (rn_ev ..).trans (ev_bin rfl)
theorem x166_11 (l1 l2 : Value) (l0 : Nat) (H : HS) : rn 166 11 [.ref l0, l1, l2] [] H = rn 166 12 [.ref l0, l1, l2] [.ref l0] H := rn_nx rfl
theorem x166_12 (l0 l1 l2 : Value) (s0 : Nat) (H : HS) : rn 166 12 [l0, l1, l2] [.ref s0] H = gk 166 15 [l0, l1, l2] [] H (gfd H 5 0 s0) := (rn_ev ..).trans (ev_gk rfl)
theorem x166_15 (l0 l1 : Value) (l2 : Int32) (s0 : Nat) (H : HS) : rn 166 15 [l0, l1, .int l2] [.ref s0] H = rn 166 16 [l0, l1, .int l2] [.int l2, .ref s0] H := rn_nx rfl
theorem x166_16 (l1 l2 : Value) (l0 : Nat) (s0 : Int32) (s1 : Nat) (H : HS) : rn 166 16 [.ref l0, l1, l2] [.int s0, .ref s1] H = rn 166 17 [.ref l0, l1, l2] [.ref l0, .int s0, .ref s1] H := rn_nx rfl
theorem x166_17 (l0 l1 l2 : Value) (s0 : Nat) (s1 : Int32) (s2 : Nat) (H : HS) : rn 166 17 [l0, l1, l2] [.ref s0, .int s1, .ref s2] H = gk 166 20 [l0, l1, l2] [.int s1, .ref s2] H (gfd H 5 0 s0) := (rn_ev ..).trans (ev_gk rfl)
theorem x166_20 (l0 l1 : Value) (l2 : Int32) (s0 : Nat) (s1 : Int32) (s2 : Nat) (H : HS) : rn 166 20 [l0, l1, .int l2] [.ref s0, .int s1, .ref s2] H = rn 166 21 [l0, l1, .int l2] [.int l2, .ref s0, .int s1, .ref s2] H := rn_nx rfl
theorem x166_21 (l0 l1 l2 : Value) (s0 : Int32) (s1 : Nat) (s2 : Int32) (s3 : Nat) (H : HS) : rn 166 21 [l0, l1, l2] [.int s0, .ref s1, .int s2, .ref s3] H = rn 166 23 [l0, l1, l2] [.int 9, .int s0, .ref s1, .int s2, .ref s3] H := rn_nx rfl
theorem x166_23 (l0 l1 l2 : Value) (s0 : Int32) (s1 : Int32) (s2 : Nat) (s3 : Int32) (s4 : Nat) (H : HS) : rn 166 23 [l0, l1, l2] [.int s0, .int s1, .ref s2, .int s3, .ref s4] H = rn 166 24 [l0, l1, l2] [.int (s1 + s0), .ref s2, .int s3, .ref s4] H := rn_nx rfl
theorem x166_24 (l0 l1 l2 : Value) (s0 : Int32) (s1 : Nat) (s2 : Int32) (s3 : Nat) (H : HS) : rn 166 24 [l0, l1, l2] [.int s0, .ref s1, .int s2, .ref s3] H = gk 166 25 [l0, l1, l2] [.int s2, .ref s3] H (ald H 100 s1 s0) := (rn_ev ..).trans (ev_gk rfl)
theorem x166_25 (l0 l1 l2 : Value) (s0 : Int32) (s1 : Int32) (s2 : Nat) (H : HS) : rn 166 25 [l0, l1, l2] [.int s0, .int s1, .ref s2] H = pk 166 26 [l0, l1, l2] [] (ast H 100 s2 s1 (.int s0)) := (rn_ev ..).trans (ev_pk rfl)
theorem x166_26 (l0 l1 : Value) (l2 : Int32) (H : HS) : rn 166 26 [l0, l1, .int l2] [] H = rn 166 29 [l0, (kl l1), .int (l2 + 1)] [] H := rn_nx rfl
theorem x166_29 (l0 l1 l2 : Value) (H : HS) : rn 166 29 [l0, l1, l2] [] H = rn 166 5 [l0, l1, l2] [] H := rn_nx rfl
theorem x166_32 (l0 l1 l2 : Value) (H : HS) : rn 166 32 [l0, l1, l2] [] H = rn 166 34 [l0, l1, l2] [.int 67] H := rn_nx rfl
theorem x166_34 (l0 l1 l2 : Value) (s0 : Int32) (H : HS) : rn 166 34 [l0, l1, l2] [.int s0] H = rn 166 35 [l0, (kl l1), .int s0] [] H := rn_nx rfl
theorem x166_35 (l0 l1 : Value) (l2 : Int32) (H : HS) : rn 166 35 [l0, l1, .int l2] [] H = rn 166 36 [l0, l1, .int l2] [.int l2] H := rn_nx rfl
theorem x166_36 (l0 l1 l2 : Value) (s0 : Int32) (H : HS) : rn 166 36 [l0, l1, l2] [.int s0] H = rn 166 38 [l0, l1, l2] [.int 76, .int s0] H := rn_nx rfl
theorem x166_38 (l0 l1 l2 : Value) (s0 : Int32) (s1 : Int32) (H : HS) : rn 166 38 [l0, l1, l2] [.int s0, .int s1] H = if s1 < s0 then rn 166 41 [l0, l1, l2] [] H else rn 166 54 [l0, l1, l2] [] H := (rn_ev ..).trans (ev_bin rfl)
theorem x166_41 (l1 l2 : Value) (l0 : Nat) (H : HS) : rn 166 41 [.ref l0, l1, l2] [] H = rn 166 42 [.ref l0, l1, l2] [.ref l0] H := rn_nx rfl
theorem x166_42 (l0 l1 l2 : Value) (s0 : Nat) (H : HS) : rn 166 42 [l0, l1, l2] [.ref s0] H = gk 166 45 [l0, l1, l2] [] H (gfd H 5 0 s0) := (rn_ev ..).trans (ev_gk rfl)
theorem x166_45 (l0 l1 : Value) (l2 : Int32) (s0 : Nat) (H : HS) : rn 166 45 [l0, l1, .int l2] [.ref s0] H = rn 166 46 [l0, l1, .int l2] [.int l2, .ref s0] H := rn_nx rfl
theorem x166_46 (l0 l1 l2 : Value) (s0 : Int32) (s1 : Nat) (H : HS) : rn 166 46 [l0, l1, l2] [.int s0, .ref s1] H = rn 166 47 [l0, l1, l2] [.int 0, .int s0, .ref s1] H := rn_nx rfl
theorem x166_47 (l0 l1 l2 : Value) (s0 : Int32) (s1 : Int32) (s2 : Nat) (H : HS) : rn 166 47 [l0, l1, l2] [.int s0, .int s1, .ref s2] H = pk 166 48 [l0, l1, l2] [] (ast H 100 s2 s1 (.int s0)) := (rn_ev ..).trans (ev_pk rfl)
theorem x166_48 (l0 l1 : Value) (l2 : Int32) (H : HS) : rn 166 48 [l0, l1, .int l2] [] H = rn 166 51 [l0, (kl l1), .int (l2 + 1)] [] H := rn_nx rfl
theorem x166_51 (l0 l1 l2 : Value) (H : HS) : rn 166 51 [l0, l1, l2] [] H = rn 166 35 [l0, l1, l2] [] H := rn_nx rfl
theorem x166_54 (l1 l2 : Value) (l0 : Nat) (H : HS) : rn 166 54 [.ref l0, l1, l2] [] H = rn 166 55 [.ref l0, l1, l2] [.ref l0] H := rn_nx rfl
theorem x166_55 (l0 l1 l2 : Value) (s0 : Nat) (H : HS) : rn 166 55 [l0, l1, l2] [.ref s0] H = gk 166 58 [l0, l1, l2] [] H (gfd H 5 0 s0) := (rn_ev ..).trans (ev_gk rfl)
theorem x166_58 (l0 l1 l2 : Value) (s0 : Nat) (H : HS) : rn 166 58 [l0, l1, l2] [.ref s0] H = rn 166 59 [l0, l1, l2] [.int 1, .ref s0] H := rn_nx rfl
theorem x166_59 (l0 l1 l2 : Value) (s0 : Int32) (s1 : Nat) (H : HS) : rn 166 59 [l0, l1, l2] [.int s0, .ref s1] H = rn 166 60 [l0, l1, l2] [.int s0, .ref s1, .int s0, .ref s1] H := rn_nx rfl
theorem x166_60 (l0 l1 l2 : Value) (s0 : Int32) (s1 : Nat) (s2 : Int32) (s3 : Nat) (H : HS) : rn 166 60 [l0, l1, l2] [.int s0, .ref s1, .int s2, .ref s3] H = gk 166 61 [l0, l1, l2] [.int s2, .ref s3] H (ald H 100 s1 s0) := (rn_ev ..).trans (ev_gk rfl)
theorem x166_61 (l0 l1 l2 : Value) (s0 : Int32) (s1 : Int32) (s2 : Nat) (H : HS) : rn 166 61 [l0, l1, l2] [.int s0, .int s1, .ref s2] H = rn 166 62 [l0, l1, l2] [.int 1, .int s0, .int s1, .ref s2] H := rn_nx rfl
theorem x166_62 (l0 l1 l2 : Value) (s0 : Int32) (s1 : Int32) (s2 : Int32) (s3 : Nat) (H : HS) : rn 166 62 [l0, l1, l2] [.int s0, .int s1, .int s2, .ref s3] H = rn 166 63 [l0, l1, l2] [.int (s1 - s0), .int s2, .ref s3] H := rn_nx rfl
theorem x166_63 (l0 l1 l2 : Value) (s0 : Int32) (s1 : Int32) (s2 : Nat) (H : HS) : rn 166 63 [l0, l1, l2] [.int s0, .int s1, .ref s2] H = pk 166 64 [l0, l1, l2] [] (ast H 100 s2 s1 (.int s0)) := (rn_ev ..).trans (ev_pk rfl)
theorem x166_64 (l0 l1 l2 : Value) (H : HS) : rn 166 64 [l0, l1, l2] [] H = some (.inl none, H) := rn_end rfl
theorem c166 (a0 : Nat) (a1 : Int32) (H : HS) : rcal 166 [.ref a0, .int a1] H = rn 166 0 [.ref a0, .int a1, un] [] H := rfl
theorem x167_0 (l0 l2 : Value) (l1 : Int32) (H : HS) : rn 167 0 [l0, .int l1, l2] [] H = rn 167 1 [l0, .int l1, l2] [.int l1] H := rn_nx rfl
theorem x167_1 (l0 l1 l2 : Value) (s0 : Int32) (H : HS) : rn 167 1 [l0, l1, l2] [.int s0] H = rn 167 2 [l0, l1, l2] [.long s0.toInt64] H := rn_nx rfl
theorem x167_2 (l0 l1 l2 : Value) (s0 : Int64) (H : HS) : rn 167 2 [l0, l1, l2] [.long s0] H = rn 167 3 [l0, l1, l2] [.long 1, .long s0] H := rn_nx rfl
theorem x167_3 (l0 l1 l2 : Value) (s0 : Int64) (s1 : Int64) (H : HS) : rn 167 3 [l0, l1, l2] [.long s0, .long s1] H = rn 167 6 [l0, l1, l2] [.long 4, .long s0, .long s1] H := rn_nx rfl
theorem x167_6 (l0 l1 l2 : Value) (s0 : Int64) (s1 : Int64) (s2 : Int64) (H : HS) : rn 167 6 [l0, l1, l2] [.long s0, .long s1, .long s2] H = bnd true 167 6 [l0, l1, l2] [] (rcal 151 [.long s2, .long s1, .long s0] H) := rn_cal rfl
theorem x167_9 (l0 l1 l2 : Value) (s0 : Int32) (H : HS) : rn 167 9 [l0, l1, l2] [.int s0] H = if s0 = 0 then rn 167 24 [l0, l1, l2] [] H else rn 167 12 [l0, l1, l2] [] H := (rn_ev ..).trans (ev_bif rfl)
theorem x167_12 (l0 l1 : Value) (l2 : Int32) (H : HS) : rn 167 12 [l0, l1, .int l2] [] H = rn 167 13 [l0, l1, .int l2] [.int l2] H := rn_nx rfl
theorem x167_13 (l0 l1 l2 : Value) (s0 : Int32) (H : HS) : rn 167 13 [l0, l1, l2] [.int s0] H = rn 167 14 [l0, l1, l2] [.long s0.toInt64] H := rn_nx rfl
theorem x167_14 (l0 l1 l2 : Value) (s0 : Int64) (H : HS) : rn 167 14 [l0, l1, l2] [.long s0] H = rn 167 15 [l0, l1, l2] [.long 1, .long s0] H := rn_nx rfl
theorem x167_15 (l0 l1 l2 : Value) (s0 : Int64) (s1 : Int64) (H : HS) : rn 167 15 [l0, l1, l2] [.long s0, .long s1] H = rn 167 18 [l0, l1, l2] [.long 30, .long s0, .long s1] H := rn_nx rfl
theorem x167_18 (l0 l1 l2 : Value) (s0 : Int64) (s1 : Int64) (s2 : Int64) (H : HS) : rn 167 18 [l0, l1, l2] [.long s0, .long s1, .long s2] H = bnd true 167 18 [l0, l1, l2] [] (rcal 151 [.long s2, .long s1, .long s0] H) := rn_cal rfl
theorem x167_21 (l0 l1 l2 : Value) (s0 : Int32) (H : HS) : rn 167 21 [l0, l1, l2] [.int s0] H = if s0 = 0 then rn 167 24 [l0, l1, l2] [] H else rn 167 30 [l0, l1, l2] [] H := (rn_ev ..).trans (ev_bin rfl)
theorem x167_24 (l1 l2 : Value) (l0 : Nat) (H : HS) : rn 167 24 [.ref l0, l1, l2] [] H = rn 167 25 [.ref l0, l1, l2] [.ref l0] H := rn_nx rfl
theorem x167_25 (l0 l1 l2 : Value) (s0 : Nat) (H : HS) : rn 167 25 [l0, l1, l2] [.ref s0] H = rn 167 26 [l0, l1, l2] [.int 1, .ref s0] H := rn_nx rfl
theorem x167_26 (l0 l1 l2 : Value) (s0 : Int32) (s1 : Nat) (H : HS) (h : recv H s1 5 = true) : rn 167 26 [l0, l1, l2] [.int s0, .ref s1] H = bnd true 167 26 [l0, l1, l2] [] (rcal 150 [.ref s1, .int s0] H) := rn_cal (vcal h rfl)
theorem x167_29 (l0 l1 l2 : Value) (s0 : Int32) (H : HS) : rn 167 29 [l0, l1, l2] [.int s0] H = some (.inl (some (.int s0)), H) := rn_end rfl
theorem x167_30 (l1 l2 : Value) (l0 : Nat) (H : HS) : rn 167 30 [.ref l0, l1, l2] [] H = rn 167 31 [.ref l0, l1, l2] [.ref l0] H := rn_nx rfl
theorem x167_31 (l0 l1 l2 : Value) (s0 : Nat) (H : HS) : rn 167 31 [l0, l1, l2] [.ref s0] H = gk 167 34 [l0, l1, l2] [] H (gfd H 5 0 s0) := (rn_ev ..).trans (ev_gk rfl)
theorem x167_34 (l0 l1 l2 : Value) (s0 : Nat) (H : HS) : rn 167 34 [l0, l1, l2] [.ref s0] H = rn 167 35 [l0, l1, l2] [.int 0, .ref s0] H := rn_nx rfl
theorem x167_35 (l0 l1 l2 : Value) (s0 : Int32) (s1 : Nat) (H : HS) : rn 167 35 [l0, l1, l2] [.int s0, .ref s1] H = gk 167 36 [l0, l1, l2] [] H (ald H 100 s1 s0) := (rn_ev ..).trans (ev_gk rfl)
theorem x167_36 (l0 l1 l2 : Value) (s0 : Int32) (H : HS) : rn 167 36 [l0, l1, l2] [.int s0] H = rn 167 38 [l0, l1, l2] [.int 7, .int s0] H := rn_nx rfl
theorem x167_38 (l0 l1 l2 : Value) (s0 : Int32) (s1 : Int32) (H : HS) : rn 167 38 [l0, l1, l2] [.int s0, .int s1] H = if s1 = s0 then rn 167 41 [l0, l1, l2] [] H else rn 167 47 [l0, l1, l2] [] H := (rn_ev ..).trans (ev_bin rfl)
theorem x167_41 (l1 l2 : Value) (l0 : Nat) (H : HS) : rn 167 41 [.ref l0, l1, l2] [] H = rn 167 42 [.ref l0, l1, l2] [.ref l0] H := rn_nx rfl
theorem x167_42 (l0 l1 l2 : Value) (s0 : Nat) (H : HS) : rn 167 42 [l0, l1, l2] [.ref s0] H = rn 167 43 [l0, l1, l2] [.int 2, .ref s0] H := rn_nx rfl
theorem x167_43 (l0 l1 l2 : Value) (s0 : Int32) (s1 : Nat) (H : HS) (h : recv H s1 5 = true) : rn 167 43 [l0, l1, l2] [.int s0, .ref s1] H = bnd true 167 43 [l0, l1, l2] [] (rcal 150 [.ref s1, .int s0] H) := rn_cal (vcal h rfl)
theorem x167_46 (l0 l1 l2 : Value) (s0 : Int32) (H : HS) : rn 167 46 [l0, l1, l2] [.int s0] H = some (.inl (some (.int s0)), H) := rn_end rfl
theorem x167_47 (l1 l2 : Value) (l0 : Nat) (H : HS) : rn 167 47 [.ref l0, l1, l2] [] H = rn 167 48 [.ref l0, l1, l2] [.ref l0] H := rn_nx rfl
theorem x167_48 (l0 l1 l2 : Value) (s0 : Nat) (H : HS) : rn 167 48 [l0, l1, l2] [.ref s0] H = gk 167 51 [l0, l1, l2] [] H (gfd H 5 0 s0) := (rn_ev ..).trans (ev_gk rfl)
theorem x167_51 (l0 l1 l2 : Value) (s0 : Nat) (H : HS) : rn 167 51 [l0, l1, l2] [.ref s0] H = rn 167 53 [l0, l1, l2] [.int 9, .ref s0] H := rn_nx rfl
theorem x167_53 (l1 l2 : Value) (l0 : Nat) (s0 : Int32) (s1 : Nat) (H : HS) : rn 167 53 [.ref l0, l1, l2] [.int s0, .ref s1] H = rn 167 54 [.ref l0, l1, l2] [.ref l0, .int s0, .ref s1] H := rn_nx rfl
theorem x167_54 (l0 l1 l2 : Value) (s0 : Nat) (s1 : Int32) (s2 : Nat) (H : HS) : rn 167 54 [l0, l1, l2] [.ref s0, .int s1, .ref s2] H = gk 167 57 [l0, l1, l2] [.int s1, .ref s2] H (gfd H 5 0 s0) := (rn_ev ..).trans (ev_gk rfl)
theorem x167_57 (l0 l1 l2 : Value) (s0 : Nat) (s1 : Int32) (s2 : Nat) (H : HS) : rn 167 57 [l0, l1, l2] [.ref s0, .int s1, .ref s2] H = rn 167 58 [l0, l1, l2] [.int 0, .ref s0, .int s1, .ref s2] H := rn_nx rfl
theorem x167_58 (l0 l1 l2 : Value) (s0 : Int32) (s1 : Nat) (s2 : Int32) (s3 : Nat) (H : HS) : rn 167 58 [l0, l1, l2] [.int s0, .ref s1, .int s2, .ref s3] H = gk 167 59 [l0, l1, l2] [.int s2, .ref s3] H (ald H 100 s1 s0) := (rn_ev ..).trans (ev_gk rfl)
theorem x167_59 (l0 l1 l2 : Value) (s0 : Int32) (s1 : Int32) (s2 : Nat) (H : HS) : rn 167 59 [l0, l1, l2] [.int s0, .int s1, .ref s2] H = rn 167 60 [l0, l1, l2] [.int (s1 + s0), .ref s2] H := rn_nx rfl
theorem x167_60 (l0 l2 : Value) (l1 : Int32) (s0 : Int32) (s1 : Nat) (H : HS) : rn 167 60 [l0, .int l1, l2] [.int s0, .ref s1] H = rn 167 61 [l0, .int l1, l2] [.int l1, .int s0, .ref s1] H := rn_nx rfl
theorem x167_61 (l0 l1 l2 : Value) (s0 : Int32) (s1 : Int32) (s2 : Nat) (H : HS) : rn 167 61 [l0, l1, l2] [.int s0, .int s1, .ref s2] H = pk 167 62 [l0, l1, l2] [] (ast H 100 s2 s1 (.int s0)) := (rn_ev ..).trans (ev_pk rfl)
theorem x167_62 (l1 l2 : Value) (l0 : Nat) (H : HS) : rn 167 62 [.ref l0, l1, l2] [] H = rn 167 63 [.ref l0, l1, l2] [.ref l0] H := rn_nx rfl
theorem x167_63 (l0 l1 l2 : Value) (s0 : Nat) (H : HS) : rn 167 63 [l0, l1, l2] [.ref s0] H = gk 167 66 [l0, l1, l2] [] H (gfd H 5 0 s0) := (rn_ev ..).trans (ev_gk rfl)
theorem x167_66 (l0 l1 l2 : Value) (s0 : Nat) (H : HS) : rn 167 66 [l0, l1, l2] [.ref s0] H = rn 167 67 [l0, l1, l2] [.int 0, .ref s0] H := rn_nx rfl
theorem x167_67 (l0 l1 l2 : Value) (s0 : Int32) (s1 : Nat) (H : HS) : rn 167 67 [l0, l1, l2] [.int s0, .ref s1] H = gk 167 68 [l0, l1, l2] [] H (ald H 100 s1 s0) := (rn_ev ..).trans (ev_gk rfl)
theorem x167_68 (l0 l1 l2 : Value) (s0 : Int32) (H : HS) : rn 167 68 [l0, l1, l2] [.int s0] H = if 0 < s0 then rn 167 71 [l0, l1, l2] [] H else rn 167 88 [l0, l1, l2] [] H := (rn_ev ..).trans (ev_bin rfl)
theorem x167_71 (l1 l2 : Value) (l0 : Nat) (H : HS) : rn 167 71 [.ref l0, l1, l2] [] H = rn 167 72 [.ref l0, l1, l2] [.ref l0] H := rn_nx rfl
theorem x167_72 (l0 l1 l2 : Value) (s0 : Nat) (H : HS) : rn 167 72 [l0, l1, l2] [.ref s0] H = gk 167 75 [l0, l1, l2] [] H (gfd H 5 0 s0) := (rn_ev ..).trans (ev_gk rfl)
theorem x167_75 (l0 l1 l2 : Value) (s0 : Nat) (H : HS) : rn 167 75 [l0, l1, l2] [.ref s0] H = rn 167 77 [l0, l1, l2] [.int 16, .ref s0] H := rn_nx rfl
theorem x167_77 (l1 l2 : Value) (l0 : Nat) (s0 : Int32) (s1 : Nat) (H : HS) : rn 167 77 [.ref l0, l1, l2] [.int s0, .ref s1] H = rn 167 78 [.ref l0, l1, l2] [.ref l0, .int s0, .ref s1] H := rn_nx rfl
theorem x167_78 (l0 l1 l2 : Value) (s0 : Nat) (s1 : Int32) (s2 : Nat) (H : HS) : rn 167 78 [l0, l1, l2] [.ref s0, .int s1, .ref s2] H = gk 167 81 [l0, l1, l2] [.int s1, .ref s2] H (gfd H 5 0 s0) := (rn_ev ..).trans (ev_gk rfl)
theorem x167_81 (l0 l1 l2 : Value) (s0 : Nat) (s1 : Int32) (s2 : Nat) (H : HS) : rn 167 81 [l0, l1, l2] [.ref s0, .int s1, .ref s2] H = rn 167 82 [l0, l1, l2] [.int 0, .ref s0, .int s1, .ref s2] H := rn_nx rfl
theorem x167_82 (l0 l1 l2 : Value) (s0 : Int32) (s1 : Nat) (s2 : Int32) (s3 : Nat) (H : HS) : rn 167 82 [l0, l1, l2] [.int s0, .ref s1, .int s2, .ref s3] H = gk 167 83 [l0, l1, l2] [.int s2, .ref s3] H (ald H 100 s1 s0) := (rn_ev ..).trans (ev_gk rfl)
theorem x167_83 (l0 l1 l2 : Value) (s0 : Int32) (s1 : Int32) (s2 : Nat) (H : HS) : rn 167 83 [l0, l1, l2] [.int s0, .int s1, .ref s2] H = rn 167 84 [l0, l1, l2] [.int (s1 + s0), .ref s2] H := rn_nx rfl
theorem x167_84 (l0 l1 l2 : Value) (s0 : Int32) (s1 : Nat) (H : HS) : rn 167 84 [l0, l1, l2] [.int s0, .ref s1] H = rn 167 85 [l0, l1, l2] [.int 1, .int s0, .ref s1] H := rn_nx rfl
theorem x167_85 (l0 l1 l2 : Value) (s0 : Int32) (s1 : Int32) (s2 : Nat) (H : HS) : rn 167 85 [l0, l1, l2] [.int s0, .int s1, .ref s2] H = rn 167 86 [l0, l1, l2] [.int (s1 - s0), .ref s2] H := rn_nx rfl
theorem x167_86 (l0 l1 : Value) (l2 : Int32) (s0 : Int32) (s1 : Nat) (H : HS) : rn 167 86 [l0, l1, .int l2] [.int s0, .ref s1] H = rn 167 87 [l0, l1, .int l2] [.int l2, .int s0, .ref s1] H := rn_nx rfl
theorem x167_87 (l0 l1 l2 : Value) (s0 : Int32) (s1 : Int32) (s2 : Nat) (H : HS) : rn 167 87 [l0, l1, l2] [.int s0, .int s1, .ref s2] H = pk 167 88 [l0, l1, l2] [] (ast H 100 s2 s1 (.int s0)) := (rn_ev ..).trans (ev_pk rfl)
theorem x167_88 (l1 l2 : Value) (l0 : Nat) (H : HS) : rn 167 88 [.ref l0, l1, l2] [] H = rn 167 89 [.ref l0, l1, l2] [.ref l0] H := rn_nx rfl
theorem x167_89 (l0 l1 l2 : Value) (s0 : Nat) (H : HS) : rn 167 89 [l0, l1, l2] [.ref s0] H = gk 167 92 [l0, l1, l2] [] H (gfd H 5 0 s0) := (rn_ev ..).trans (ev_gk rfl)
theorem x167_92 (l0 l1 l2 : Value) (s0 : Nat) (H : HS) : rn 167 92 [l0, l1, l2] [.ref s0] H = rn 167 93 [l0, l1, l2] [.int 0, .ref s0] H := rn_nx rfl
theorem x167_93 (l0 l1 l2 : Value) (s0 : Int32) (s1 : Nat) (H : HS) : rn 167 93 [l0, l1, l2] [.int s0, .ref s1] H = rn 167 94 [l0, l1, l2] [.int s0, .ref s1, .int s0, .ref s1] H := rn_nx rfl
theorem x167_94 (l0 l1 l2 : Value) (s0 : Int32) (s1 : Nat) (s2 : Int32) (s3 : Nat) (H : HS) : rn 167 94 [l0, l1, l2] [.int s0, .ref s1, .int s2, .ref s3] H = gk 167 95 [l0, l1, l2] [.int s2, .ref s3] H (ald H 100 s1 s0) := (rn_ev ..).trans (ev_gk rfl)
theorem x167_95 (l0 l1 l2 : Value) (s0 : Int32) (s1 : Int32) (s2 : Nat) (H : HS) : rn 167 95 [l0, l1, l2] [.int s0, .int s1, .ref s2] H = rn 167 96 [l0, l1, l2] [.int 1, .int s0, .int s1, .ref s2] H := rn_nx rfl
theorem x167_96 (l0 l1 l2 : Value) (s0 : Int32) (s1 : Int32) (s2 : Int32) (s3 : Nat) (H : HS) : rn 167 96 [l0, l1, l2] [.int s0, .int s1, .int s2, .ref s3] H = rn 167 97 [l0, l1, l2] [.int (s1 + s0), .int s2, .ref s3] H := rn_nx rfl
theorem x167_97 (l0 l1 l2 : Value) (s0 : Int32) (s1 : Int32) (s2 : Nat) (H : HS) : rn 167 97 [l0, l1, l2] [.int s0, .int s1, .ref s2] H = pk 167 98 [l0, l1, l2] [] (ast H 100 s2 s1 (.int s0)) := (rn_ev ..).trans (ev_pk rfl)
theorem x167_98 (l1 l2 : Value) (l0 : Nat) (H : HS) : rn 167 98 [.ref l0, l1, l2] [] H = rn 167 99 [.ref l0, l1, l2] [.ref l0] H := rn_nx rfl
theorem x167_99 (l0 l1 l2 : Value) (s0 : Nat) (H : HS) : rn 167 99 [l0, l1, l2] [.ref s0] H = gk 167 102 [l0, l1, l2] [] H (gfd H 5 0 s0) := (rn_ev ..).trans (ev_gk rfl)
theorem x167_102 (l0 l1 l2 : Value) (s0 : Nat) (H : HS) : rn 167 102 [l0, l1, l2] [.ref s0] H = rn 167 103 [l0, l1, l2] [.int 0, .ref s0] H := rn_nx rfl
theorem x167_103 (l0 l1 l2 : Value) (s0 : Int32) (s1 : Nat) (H : HS) : rn 167 103 [l0, l1, l2] [.int s0, .ref s1] H = gk 167 104 [l0, l1, l2] [] H (ald H 100 s1 s0) := (rn_ev ..).trans (ev_gk rfl)
theorem x167_104 (l0 l1 l2 : Value) (s0 : Int32) (H : HS) : rn 167 104 [l0, l1, l2] [.int s0] H = rn 167 105 [l0, l1, l2] [.int 1, .int s0] H := rn_nx rfl
theorem x167_105 (l0 l1 l2 : Value) (s0 : Int32) (s1 : Int32) (H : HS) : rn 167 105 [l0, l1, l2] [.int s0, .int s1] H = rn 167 106 [l0, l1, l2] [.int (s1 - s0)] H := rn_nx rfl
theorem x167_106 (l0 l1 l2 : Value) (s0 : Int32) (H : HS) : rn 167 106 [l0, l1, l2] [.int s0] H = some (.inl (some (.int s0)), H) := rn_end rfl
theorem c167 (a0 : Nat) (a1 : Int32) (a2 : Int32) (H : HS) : rcal 167 [.ref a0, .int a1, .int a2] H = rn 167 0 [.ref a0, .int a1, .int a2] [] H := rfl
theorem x168_0 (l1 l2 : Value) (l0 : Nat) (H : HS) : rn 168 0 [.ref l0, l1, l2] [] H = rn 168 1 [.ref l0, l1, l2] [.ref l0] H := rn_nx rfl
theorem x168_1 (l0 l1 l2 : Value) (s0 : Nat) (H : HS) (h : recv H s0 5 = true) : rn 168 1 [l0, l1, l2] [.ref s0] H = bnd true 168 1 [l0, l1, l2] [] (rcal 152 [.ref s0] H) := rn_cal (vcal h rfl)
theorem x168_4 (l1 l2 : Value) (l0 : Nat) (H : HS) : rn 168 4 [.ref l0, l1, l2] [] H = rn 168 5 [.ref l0, l1, l2] [.ref l0] H := rn_nx rfl
theorem x168_5 (l1 l2 : Value) (l0 : Nat) (s0 : Nat) (H : HS) : rn 168 5 [.ref l0, l1, l2] [.ref s0] H = rn 168 6 [.ref l0, l1, l2] [.ref l0, .ref s0] H := rn_nx rfl
theorem x168_6 (l0 l2 : Value) (l1 : Int32) (s0 : Nat) (s1 : Nat) (H : HS) : rn 168 6 [l0, .int l1, l2] [.ref s0, .ref s1] H = rn 168 7 [l0, .int l1, l2] [.int l1, .ref s0, .ref s1] H := rn_nx rfl
theorem x168_7 (l0 l1 : Value) (l2 : Int32) (s0 : Int32) (s1 : Nat) (s2 : Nat) (H : HS) : rn 168 7 [l0, l1, .int l2] [.int s0, .ref s1, .ref s2] H = rn 168 8 [l0, l1, .int l2] [.int l2, .int s0, .ref s1, .ref s2] H := rn_nx rfl
theorem x168_8 (l0 l1 l2 : Value) (s0 : Int32) (s1 : Int32) (s2 : Nat) (s3 : Nat) (H : HS) (h : recv H s2 5 = true) : rn 168 8 [l0, l1, l2] [.int s0, .int s1, .ref s2, .ref s3] H = bnd true 168 8 [l0, l1, l2] [.ref s3] (rcal 167 [.ref s2, .int s1, .int s0] H) := rn_cal (vcal h rfl)
theorem x168_11 (l0 l1 l2 : Value) (s0 : Int32) (s1 : Nat) (H : HS) (h : recv H s1 5 = true) : rn 168 11 [l0, l1, l2] [.int s0, .ref s1] H = bnd true 168 11 [l0, l1, l2] [] (rcal 153 [.ref s1, .int s0] H) := rn_cal (vcal h rfl)
theorem x168_14 (l0 l1 l2 : Value) (s0 : Int32) (H : HS) : rn 168 14 [l0, l1, l2] [.int s0] H = some (.inl (some (.int s0)), H) := rn_end rfl
theorem c168 (a0 : Nat) (a1 : Int32) (a2 : Int32) (H : HS) : rcal 168 [.ref a0, .int a1, .int a2] H = rn 168 0 [.ref a0, .int a1, .int a2] [] H := rfl
theorem x169_0 (l1 l2 l3 : Value) (l0 : Nat) (H : HS) : rn 169 0 [.ref l0, l1, l2, l3] [] H = rn 169 1 [.ref l0, l1, l2, l3] [.ref l0] H := rn_nx rfl
theorem x169_1 (l0 l2 l3 : Value) (l1 : Int32) (s0 : Nat) (H : HS) : rn 169 1 [l0, .int l1, l2, l3] [.ref s0] H = rn 169 2 [l0, .int l1, l2, l3] [.int l1, .ref s0] H := rn_nx rfl
theorem x169_2 (l0 l1 l2 l3 : Value) (s0 : Int32) (s1 : Nat) (H : HS) (h : recv H s1 5 = true) : rn 169 2 [l0, l1, l2, l3] [.int s0, .ref s1] H = bnd true 169 2 [l0, l1, l2, l3] [] (rcal 155 [.ref s1, .int s0] H) := rn_cal (vcal h rfl)
theorem x169_5 (l0 l1 l2 l3 : Value) (s0 : Int32) (H : HS) : rn 169 5 [l0, l1, l2, l3] [.int s0] H = if s0 = 0 then rn 169 8 [l0, l1, l2, l3] [] H else rn 169 14 [l0, l1, l2, l3] [] H := (rn_ev ..).trans (ev_bin rfl)
theorem x169_8 (l1 l2 l3 : Value) (l0 : Nat) (H : HS) : rn 169 8 [.ref l0, l1, l2, l3] [] H = rn 169 9 [.ref l0, l1, l2, l3] [.ref l0] H := rn_nx rfl
theorem x169_9 (l0 l1 l2 l3 : Value) (s0 : Nat) (H : HS) : rn 169 9 [l0, l1, l2, l3] [.ref s0] H = rn 169 10 [l0, l1, l2, l3] [.int 1, .ref s0] H := rn_nx rfl
theorem x169_10 (l0 l1 l2 l3 : Value) (s0 : Int32) (s1 : Nat) (H : HS) (h : recv H s1 5 = true) : rn 169 10 [l0, l1, l2, l3] [.int s0, .ref s1] H = bnd true 169 10 [l0, l1, l2, l3] [] (rcal 150 [.ref s1, .int s0] H) := rn_cal (vcal h rfl)
theorem x169_13 (l0 l1 l2 l3 : Value) (s0 : Int32) (H : HS) : rn 169 13 [l0, l1, l2, l3] [.int s0] H = some (.inl (some (.int s0)), H) := rn_end rfl
theorem x169_14 (l0 l1 l3 : Value) (l2 : Int32) (H : HS) : rn 169 14 [l0, l1, .int l2, l3] [] H = rn 169 15 [l0, l1, .int l2, l3] [.int l2] H := rn_nx rfl
theorem x169_15 (l0 l1 l2 l3 : Value) (s0 : Int32) (H : HS) : rn 169 15 [l0, l1, l2, l3] [.int s0] H = rn 169 16 [l0, l1, l2, l3] [.long s0.toInt64] H := rn_nx rfl
theorem x169_16 (l0 l1 l2 l3 : Value) (s0 : Int64) (H : HS) : rn 169 16 [l0, l1, l2, l3] [.long s0] H = rn 169 17 [l0, l1, l2, l3] [.long 1, .long s0] H := rn_nx rfl
theorem x169_17 (l0 l1 l2 l3 : Value) (s0 : Int64) (s1 : Int64) (H : HS) : rn 169 17 [l0, l1, l2, l3] [.long s0, .long s1] H = rn 169 20 [l0, l1, l2, l3] [.long 4, .long s0, .long s1] H := rn_nx rfl
theorem x169_20 (l0 l1 l2 l3 : Value) (s0 : Int64) (s1 : Int64) (s2 : Int64) (H : HS) : rn 169 20 [l0, l1, l2, l3] [.long s0, .long s1, .long s2] H = bnd true 169 20 [l0, l1, l2, l3] [] (rcal 151 [.long s2, .long s1, .long s0] H) := rn_cal rfl
theorem x169_23 (l0 l1 l2 l3 : Value) (s0 : Int32) (H : HS) : rn 169 23 [l0, l1, l2, l3] [.int s0] H = if s0 = 0 then rn 169 26 [l0, l1, l2, l3] [] H else rn 169 32 [l0, l1, l2, l3] [] H := (rn_ev ..).trans (ev_bin rfl)
theorem x169_26 (l1 l2 l3 : Value) (l0 : Nat) (H : HS) : rn 169 26 [.ref l0, l1, l2, l3] [] H = rn 169 27 [.ref l0, l1, l2, l3] [.ref l0] H := rn_nx rfl
theorem x169_27 (l0 l1 l2 l3 : Value) (s0 : Nat) (H : HS) : rn 169 27 [l0, l1, l2, l3] [.ref s0] H = rn 169 28 [l0, l1, l2, l3] [.int 2, .ref s0] H := rn_nx rfl
theorem x169_28 (l0 l1 l2 l3 : Value) (s0 : Int32) (s1 : Nat) (H : HS) (h : recv H s1 5 = true) : rn 169 28 [l0, l1, l2, l3] [.int s0, .ref s1] H = bnd true 169 28 [l0, l1, l2, l3] [] (rcal 150 [.ref s1, .int s0] H) := rn_cal (vcal h rfl)
theorem x169_31 (l0 l1 l2 l3 : Value) (s0 : Int32) (H : HS) : rn 169 31 [l0, l1, l2, l3] [.int s0] H = some (.inl (some (.int s0)), H) := rn_end rfl
theorem x169_32 (l1 l2 l3 : Value) (l0 : Nat) (H : HS) : rn 169 32 [.ref l0, l1, l2, l3] [] H = rn 169 33 [.ref l0, l1, l2, l3] [.ref l0] H := rn_nx rfl
theorem x169_33 (l0 l2 l3 : Value) (l1 : Int32) (s0 : Nat) (H : HS) : rn 169 33 [l0, .int l1, l2, l3] [.ref s0] H = rn 169 34 [l0, .int l1, l2, l3] [.int l1, .ref s0] H := rn_nx rfl
theorem x169_34 (l0 l1 l2 l3 : Value) (s0 : Int32) (s1 : Nat) (H : HS) (h : recv H s1 5 = true) : rn 169 34 [l0, l1, l2, l3] [.int s0, .ref s1] H = bnd true 169 34 [l0, l1, l2, l3] [] (rcal 162 [.ref s1, .int s0] H) := rn_cal (vcal h rfl)
theorem x169_37 (l0 l1 l3 : Value) (l2 : Int32) (s0 : Int32) (H : HS) : rn 169 37 [l0, l1, .int l2, l3] [.int s0] H = rn 169 38 [l0, l1, .int l2, l3] [.int l2, .int s0] H := rn_nx rfl
theorem x169_38 (l0 l1 l2 l3 : Value) (s0 : Int32) (s1 : Int32) (H : HS) : rn 169 38 [l0, l1, l2, l3] [.int s0, .int s1] H = if s0 < s1 then rn 169 41 [l0, l1, l2, l3] [] H else rn 169 47 [l0, l1, l2, l3] [] H := (rn_ev ..).trans (ev_bin rfl)
theorem x169_41 (l1 l2 l3 : Value) (l0 : Nat) (H : HS) : rn 169 41 [.ref l0, l1, l2, l3] [] H = rn 169 42 [.ref l0, l1, l2, l3] [.ref l0] H := rn_nx rfl
theorem x169_42 (l0 l1 l2 l3 : Value) (s0 : Nat) (H : HS) : rn 169 42 [l0, l1, l2, l3] [.ref s0] H = rn 169 43 [l0, l1, l2, l3] [.int 3, .ref s0] H := rn_nx rfl
theorem x169_43 (l0 l1 l2 l3 : Value) (s0 : Int32) (s1 : Nat) (H : HS) (h : recv H s1 5 = true) : rn 169 43 [l0, l1, l2, l3] [.int s0, .ref s1] H = bnd true 169 43 [l0, l1, l2, l3] [] (rcal 150 [.ref s1, .int s0] H) := rn_cal (vcal h rfl)
theorem x169_46 (l0 l1 l2 l3 : Value) (s0 : Int32) (H : HS) : rn 169 46 [l0, l1, l2, l3] [.int s0] H = some (.inl (some (.int s0)), H) := rn_end rfl
theorem x169_47 (l1 l2 l3 : Value) (l0 : Nat) (H : HS) : rn 169 47 [.ref l0, l1, l2, l3] [] H = rn 169 48 [.ref l0, l1, l2, l3] [.ref l0] H := rn_nx rfl
theorem x169_48 (l0 l1 l2 l3 : Value) (s0 : Nat) (H : HS) : rn 169 48 [l0, l1, l2, l3] [.ref s0] H = gk 169 51 [l0, l1, l2, l3] [] H (gfd H 5 0 s0) := (rn_ev ..).trans (ev_gk rfl)
theorem x169_51 (l0 l1 l2 l3 : Value) (s0 : Nat) (H : HS) : rn 169 51 [l0, l1, l2, l3] [.ref s0] H = rn 169 53 [l0, l1, l2, l3] [.int 9, .ref s0] H := rn_nx rfl
theorem x169_53 (l0 l2 l3 : Value) (l1 : Int32) (s0 : Int32) (s1 : Nat) (H : HS) : rn 169 53 [l0, .int l1, l2, l3] [.int s0, .ref s1] H = rn 169 54 [l0, .int l1, l2, l3] [.int l1, .int s0, .ref s1] H := rn_nx rfl
theorem x169_54 (l0 l1 l2 l3 : Value) (s0 : Int32) (s1 : Int32) (s2 : Nat) (H : HS) : rn 169 54 [l0, l1, l2, l3] [.int s0, .int s1, .ref s2] H = rn 169 55 [l0, l1, l2, l3] [.int (s1 + s0), .ref s2] H := rn_nx rfl
theorem x169_55 (l0 l1 l2 l3 : Value) (s0 : Int32) (s1 : Nat) (H : HS) : rn 169 55 [l0, l1, l2, l3] [.int s0, .ref s1] H = gk 169 56 [l0, l1, l2, l3] [] H (ald H 100 s1 s0) := (rn_ev ..).trans (ev_gk rfl)
theorem x169_56 (l0 l1 l2 l3 : Value) (s0 : Int32) (H : HS) : rn 169 56 [l0, l1, l2, l3] [.int s0] H = rn 169 57 [l0, l1, (kl l2), .int s0] [] H := rn_nx rfl
theorem x169_57 (l1 l2 l3 : Value) (l0 : Nat) (H : HS) : rn 169 57 [.ref l0, l1, l2, l3] [] H = rn 169 58 [.ref l0, l1, l2, l3] [.ref l0] H := rn_nx rfl
theorem x169_58 (l0 l1 l2 l3 : Value) (s0 : Nat) (H : HS) : rn 169 58 [l0, l1, l2, l3] [.ref s0] H = gk 169 61 [l0, l1, l2, l3] [] H (gfd H 5 0 s0) := (rn_ev ..).trans (ev_gk rfl)
theorem x169_61 (l0 l1 l2 l3 : Value) (s0 : Nat) (H : HS) : rn 169 61 [l0, l1, l2, l3] [.ref s0] H = rn 169 63 [l0, l1, l2, l3] [.int 9, .ref s0] H := rn_nx rfl
theorem x169_63 (l0 l2 l3 : Value) (l1 : Int32) (s0 : Int32) (s1 : Nat) (H : HS) : rn 169 63 [l0, .int l1, l2, l3] [.int s0, .ref s1] H = rn 169 64 [l0, .int l1, l2, l3] [.int l1, .int s0, .ref s1] H := rn_nx rfl
theorem x169_64 (l0 l1 l2 l3 : Value) (s0 : Int32) (s1 : Int32) (s2 : Nat) (H : HS) : rn 169 64 [l0, l1, l2, l3] [.int s0, .int s1, .ref s2] H = rn 169 65 [l0, l1, l2, l3] [.int (s1 + s0), .ref s2] H := rn_nx rfl
theorem x169_65 (l0 l1 l3 : Value) (l2 : Int32) (s0 : Int32) (s1 : Nat) (H : HS) : rn 169 65 [l0, l1, .int l2, l3] [.int s0, .ref s1] H = rn 169 66 [l0, l1, .int l2, l3] [.int l2, .int s0, .ref s1] H := rn_nx rfl
theorem x169_66 (l0 l1 l2 l3 : Value) (s0 : Int32) (s1 : Int32) (s2 : Nat) (H : HS) : rn 169 66 [l0, l1, l2, l3] [.int s0, .int s1, .ref s2] H = pk 169 67 [l0, l1, l2, l3] [] (ast H 100 s2 s1 (.int s0)) := (rn_ev ..).trans (ev_pk rfl)
theorem x169_67 (l0 l1 l2 : Value) (l3 : Int32) (H : HS) : rn 169 67 [l0, l1, l2, .int l3] [] H = rn 169 68 [l0, l1, l2, .int l3] [.int l3] H := rn_nx rfl
theorem x169_68 (l0 l1 l2 l3 : Value) (s0 : Int32) (H : HS) : rn 169 68 [l0, l1, l2, l3] [.int s0] H = some (.inl (some (.int s0)), H) := rn_end rfl
theorem c169 (a0 : Nat) (a1 : Int32) (a2 : Int32) (H : HS) : rcal 169 [.ref a0, .int a1, .int a2] H = rn 169 0 [.ref a0, .int a1, .int a2, un] [] H := rfl
theorem x170_0 (l1 l2 : Value) (l0 : Nat) (H : HS) : rn 170 0 [.ref l0, l1, l2] [] H = rn 170 1 [.ref l0, l1, l2] [.ref l0] H := rn_nx rfl
theorem x170_1 (l0 l1 l2 : Value) (s0 : Nat) (H : HS) (h : recv H s0 5 = true) : rn 170 1 [l0, l1, l2] [.ref s0] H = bnd true 170 1 [l0, l1, l2] [] (rcal 152 [.ref s0] H) := rn_cal (vcal h rfl)
theorem x170_4 (l1 l2 : Value) (l0 : Nat) (H : HS) : rn 170 4 [.ref l0, l1, l2] [] H = rn 170 5 [.ref l0, l1, l2] [.ref l0] H := rn_nx rfl
theorem x170_5 (l1 l2 : Value) (l0 : Nat) (s0 : Nat) (H : HS) : rn 170 5 [.ref l0, l1, l2] [.ref s0] H = rn 170 6 [.ref l0, l1, l2] [.ref l0, .ref s0] H := rn_nx rfl
theorem x170_6 (l0 l2 : Value) (l1 : Int32) (s0 : Nat) (s1 : Nat) (H : HS) : rn 170 6 [l0, .int l1, l2] [.ref s0, .ref s1] H = rn 170 7 [l0, .int l1, l2] [.int l1, .ref s0, .ref s1] H := rn_nx rfl
theorem x170_7 (l0 l1 : Value) (l2 : Int32) (s0 : Int32) (s1 : Nat) (s2 : Nat) (H : HS) : rn 170 7 [l0, l1, .int l2] [.int s0, .ref s1, .ref s2] H = rn 170 8 [l0, l1, .int l2] [.int l2, .int s0, .ref s1, .ref s2] H := rn_nx rfl
theorem x170_8 (l0 l1 l2 : Value) (s0 : Int32) (s1 : Int32) (s2 : Nat) (s3 : Nat) (H : HS) (h : recv H s2 5 = true) : rn 170 8 [l0, l1, l2] [.int s0, .int s1, .ref s2, .ref s3] H = bnd true 170 8 [l0, l1, l2] [.ref s3] (rcal 169 [.ref s2, .int s1, .int s0] H) := rn_cal (vcal h rfl)
theorem x170_11 (l0 l1 l2 : Value) (s0 : Int32) (s1 : Nat) (H : HS) (h : recv H s1 5 = true) : rn 170 11 [l0, l1, l2] [.int s0, .ref s1] H = bnd true 170 11 [l0, l1, l2] [] (rcal 153 [.ref s1, .int s0] H) := rn_cal (vcal h rfl)
theorem x170_14 (l0 l1 l2 : Value) (s0 : Int32) (H : HS) : rn 170 14 [l0, l1, l2] [.int s0] H = some (.inl (some (.int s0)), H) := rn_end rfl
theorem c170 (a0 : Nat) (a1 : Int32) (a2 : Int32) (H : HS) : rcal 170 [.ref a0, .int a1, .int a2] H = rn 170 0 [.ref a0, .int a1, .int a2] [] H := rfl
theorem x171_0 (l1 l2 l3 l4 : Value) (l0 : Nat) (H : HS) : rn 171 0 [.ref l0, l1, l2, l3, l4] [] H = rn 171 1 [.ref l0, l1, l2, l3, l4] [.ref l0] H := rn_nx rfl
theorem x171_1 (l0 l2 l3 l4 : Value) (l1 : Int32) (s0 : Nat) (H : HS) : rn 171 1 [l0, .int l1, l2, l3, l4] [.ref s0] H = rn 171 2 [l0, .int l1, l2, l3, l4] [.int l1, .ref s0] H := rn_nx rfl
theorem x171_2 (l0 l1 l2 l3 l4 : Value) (s0 : Int32) (s1 : Nat) (H : HS) (h : recv H s1 5 = true) : rn 171 2 [l0, l1, l2, l3, l4] [.int s0, .ref s1] H = bnd true 171 2 [l0, l1, l2, l3, l4] [] (rcal 155 [.ref s1, .int s0] H) := rn_cal (vcal h rfl)
theorem x171_5 (l0 l1 l2 l3 l4 : Value) (s0 : Int32) (H : HS) : rn 171 5 [l0, l1, l2, l3, l4] [.int s0] H = if s0 = 0 then rn 171 16 [l0, l1, l2, l3, l4] [] H else rn 171 8 [l0, l1, l2, l3, l4] [] H := (rn_ev ..).trans (ev_bif rfl)
theorem x171_8 (l1 l2 l3 l4 : Value) (l0 : Nat) (H : HS) : rn 171 8 [.ref l0, l1, l2, l3, l4] [] H = rn 171 9 [.ref l0, l1, l2, l3, l4] [.ref l0] H := rn_nx rfl
theorem x171_9 (l0 l1 l3 l4 : Value) (l2 : Int32) (s0 : Nat) (H : HS) : rn 171 9 [l0, l1, .int l2, l3, l4] [.ref s0] H = rn 171 10 [l0, l1, .int l2, l3, l4] [.int l2, .ref s0] H := rn_nx rfl
theorem x171_10 (l0 l1 l2 l3 l4 : Value) (s0 : Int32) (s1 : Nat) (H : HS) (h : recv H s1 5 = true) : rn 171 10 [l0, l1, l2, l3, l4] [.int s0, .ref s1] H = bnd true 171 10 [l0, l1, l2, l3, l4] [] (rcal 155 [.ref s1, .int s0] H) := rn_cal (vcal h rfl)
theorem x171_13 (l0 l1 l2 l3 l4 : Value) (s0 : Int32) (H : HS) : rn 171 13 [l0, l1, l2, l3, l4] [.int s0] H = if s0 = 0 then rn 171 16 [l0, l1, l2, l3, l4] [] H else rn 171 22 [l0, l1, l2, l3, l4] [] H := (rn_ev ..).trans (ev_bin rfl)
theorem x171_16 (l1 l2 l3 l4 : Value) (l0 : Nat) (H : HS) : rn 171 16 [.ref l0, l1, l2, l3, l4] [] H = rn 171 17 [.ref l0, l1, l2, l3, l4] [.ref l0] H := rn_nx rfl
theorem x171_17 (l0 l1 l2 l3 l4 : Value) (s0 : Nat) (H : HS) : rn 171 17 [l0, l1, l2, l3, l4] [.ref s0] H = rn 171 18 [l0, l1, l2, l3, l4] [.int 1, .ref s0] H := rn_nx rfl
theorem x171_18 (l0 l1 l2 l3 l4 : Value) (s0 : Int32) (s1 : Nat) (H : HS) (h : recv H s1 5 = true) : rn 171 18 [l0, l1, l2, l3, l4] [.int s0, .ref s1] H = bnd true 171 18 [l0, l1, l2, l3, l4] [] (rcal 150 [.ref s1, .int s0] H) := rn_cal (vcal h rfl)
theorem x171_21 (l0 l1 l2 l3 l4 : Value) (s0 : Int32) (H : HS) : rn 171 21 [l0, l1, l2, l3, l4] [.int s0] H = some (.inl (some (.int s0)), H) := rn_end rfl
theorem x171_22 (l0 l2 l3 l4 : Value) (l1 : Int32) (H : HS) : rn 171 22 [l0, .int l1, l2, l3, l4] [] H = rn 171 23 [l0, .int l1, l2, l3, l4] [.int l1] H := rn_nx rfl
theorem x171_23 (l0 l1 l3 l4 : Value) (l2 : Int32) (s0 : Int32) (H : HS) : rn 171 23 [l0, l1, .int l2, l3, l4] [.int s0] H = rn 171 24 [l0, l1, .int l2, l3, l4] [.int l2, .int s0] H := rn_nx rfl
theorem x171_24 (l0 l1 l2 l3 l4 : Value) (s0 : Int32) (s1 : Int32) (H : HS) : rn 171 24 [l0, l1, l2, l3, l4] [.int s0, .int s1] H = if s1 = s0 then rn 171 39 [l0, l1, l2, l3, l4] [] H else rn 171 27 [l0, l1, l2, l3, l4] [] H := (rn_ev ..).trans (ev_bif rfl)
theorem x171_27 (l0 l1 l2 l4 : Value) (l3 : Int32) (H : HS) : rn 171 27 [l0, l1, l2, .int l3, l4] [] H = rn 171 28 [l0, l1, l2, .int l3, l4] [.int l3] H := rn_nx rfl
theorem x171_28 (l0 l1 l2 l3 l4 : Value) (s0 : Int32) (H : HS) : rn 171 28 [l0, l1, l2, l3, l4] [.int s0] H = rn 171 29 [l0, l1, l2, l3, l4] [.long s0.toInt64] H := rn_nx rfl
theorem x171_29 (l0 l1 l2 l3 l4 : Value) (s0 : Int64) (H : HS) : rn 171 29 [l0, l1, l2, l3, l4] [.long s0] H = rn 171 30 [l0, l1, l2, l3, l4] [.long 1, .long s0] H := rn_nx rfl
theorem x171_30 (l0 l1 l2 l3 l4 : Value) (s0 : Int64) (s1 : Int64) (H : HS) : rn 171 30 [l0, l1, l2, l3, l4] [.long s0, .long s1] H = rn 171 33 [l0, l1, l2, l3, l4] [.long 99, .long s0, .long s1] H := rn_nx rfl
theorem x171_33 (l0 l1 l2 l3 l4 : Value) (s0 : Int64) (s1 : Int64) (s2 : Int64) (H : HS) : rn 171 33 [l0, l1, l2, l3, l4] [.long s0, .long s1, .long s2] H = bnd true 171 33 [l0, l1, l2, l3, l4] [] (rcal 151 [.long s2, .long s1, .long s0] H) := rn_cal rfl
theorem x171_36 (l0 l1 l2 l3 l4 : Value) (s0 : Int32) (H : HS) : rn 171 36 [l0, l1, l2, l3, l4] [.int s0] H = if s0 = 0 then rn 171 39 [l0, l1, l2, l3, l4] [] H else rn 171 45 [l0, l1, l2, l3, l4] [] H := (rn_ev ..).trans (ev_bin rfl)
theorem x171_39 (l1 l2 l3 l4 : Value) (l0 : Nat) (H : HS) : rn 171 39 [.ref l0, l1, l2, l3, l4] [] H = rn 171 40 [.ref l0, l1, l2, l3, l4] [.ref l0] H := rn_nx rfl
theorem x171_40 (l0 l1 l2 l3 l4 : Value) (s0 : Nat) (H : HS) : rn 171 40 [l0, l1, l2, l3, l4] [.ref s0] H = rn 171 41 [l0, l1, l2, l3, l4] [.int 2, .ref s0] H := rn_nx rfl
theorem x171_41 (l0 l1 l2 l3 l4 : Value) (s0 : Int32) (s1 : Nat) (H : HS) (h : recv H s1 5 = true) : rn 171 41 [l0, l1, l2, l3, l4] [.int s0, .ref s1] H = bnd true 171 41 [l0, l1, l2, l3, l4] [] (rcal 150 [.ref s1, .int s0] H) := rn_cal (vcal h rfl)
theorem x171_44 (l0 l1 l2 l3 l4 : Value) (s0 : Int32) (H : HS) : rn 171 44 [l0, l1, l2, l3, l4] [.int s0] H = some (.inl (some (.int s0)), H) := rn_end rfl
theorem x171_45 (l1 l2 l3 l4 : Value) (l0 : Nat) (H : HS) : rn 171 45 [.ref l0, l1, l2, l3, l4] [] H = rn 171 46 [.ref l0, l1, l2, l3, l4] [.ref l0] H := rn_nx rfl
theorem x171_46 (l0 l1 l2 l3 l4 : Value) (s0 : Nat) (H : HS) : rn 171 46 [l0, l1, l2, l3, l4] [.ref s0] H = gk 171 49 [l0, l1, l2, l3, l4] [] H (gfd H 5 0 s0) := (rn_ev ..).trans (ev_gk rfl)
theorem x171_49 (l0 l1 l2 l3 l4 : Value) (s0 : Nat) (H : HS) : rn 171 49 [l0, l1, l2, l3, l4] [.ref s0] H = rn 171 50 [l0, l1, l2, l3, l4] [.int 1, .ref s0] H := rn_nx rfl
theorem x171_50 (l0 l1 l2 l3 l4 : Value) (s0 : Int32) (s1 : Nat) (H : HS) : rn 171 50 [l0, l1, l2, l3, l4] [.int s0, .ref s1] H = gk 171 51 [l0, l1, l2, l3, l4] [] H (ald H 100 s1 s0) := (rn_ev ..).trans (ev_gk rfl)
theorem x171_51 (l0 l1 l2 l3 l4 : Value) (s0 : Int32) (H : HS) : rn 171 51 [l0, l1, l2, l3, l4] [.int s0] H = rn 171 53 [l0, l1, l2, l3, l4] [.int 6, .int s0] H := rn_nx rfl
theorem x171_53 (l0 l1 l2 l3 l4 : Value) (s0 : Int32) (s1 : Int32) (H : HS) : rn 171 53 [l0, l1, l2, l3, l4] [.int s0, .int s1] H = if s1 = s0 then rn 171 56 [l0, l1, l2, l3, l4] [] H else rn 171 62 [l0, l1, l2, l3, l4] [] H := (rn_ev ..).trans (ev_bin rfl)
theorem x171_56 (l1 l2 l3 l4 : Value) (l0 : Nat) (H : HS) : rn 171 56 [.ref l0, l1, l2, l3, l4] [] H = rn 171 57 [.ref l0, l1, l2, l3, l4] [.ref l0] H := rn_nx rfl
theorem x171_57 (l0 l1 l2 l3 l4 : Value) (s0 : Nat) (H : HS) : rn 171 57 [l0, l1, l2, l3, l4] [.ref s0] H = rn 171 58 [l0, l1, l2, l3, l4] [.int 3, .ref s0] H := rn_nx rfl
theorem x171_58 (l0 l1 l2 l3 l4 : Value) (s0 : Int32) (s1 : Nat) (H : HS) (h : recv H s1 5 = true) : rn 171 58 [l0, l1, l2, l3, l4] [.int s0, .ref s1] H = bnd true 171 58 [l0, l1, l2, l3, l4] [] (rcal 150 [.ref s1, .int s0] H) := rn_cal (vcal h rfl)
theorem x171_61 (l0 l1 l2 l3 l4 : Value) (s0 : Int32) (H : HS) : rn 171 61 [l0, l1, l2, l3, l4] [.int s0] H = some (.inl (some (.int s0)), H) := rn_end rfl
theorem x171_62 (l1 l2 l3 l4 : Value) (l0 : Nat) (H : HS) : rn 171 62 [.ref l0, l1, l2, l3, l4] [] H = rn 171 63 [.ref l0, l1, l2, l3, l4] [.ref l0] H := rn_nx rfl
theorem x171_63 (l0 l1 l2 l3 l4 : Value) (s0 : Nat) (H : HS) : rn 171 63 [l0, l1, l2, l3, l4] [.ref s0] H = gk 171 66 [l0, l1, l2, l3, l4] [] H (gfd H 5 0 s0) := (rn_ev ..).trans (ev_gk rfl)
theorem x171_66 (l0 l1 l2 l3 l4 : Value) (s0 : Nat) (H : HS) : rn 171 66 [l0, l1, l2, l3, l4] [.ref s0] H = rn 171 67 [l0, l1, l2, l3, l4] [.int 1, .ref s0] H := rn_nx rfl
theorem x171_67 (l0 l1 l2 l3 l4 : Value) (s0 : Int32) (s1 : Nat) (H : HS) : rn 171 67 [l0, l1, l2, l3, l4] [.int s0, .ref s1] H = gk 171 68 [l0, l1, l2, l3, l4] [] H (ald H 100 s1 s0) := (rn_ev ..).trans (ev_gk rfl)
theorem x171_68 (l0 l1 l2 l3 l4 : Value) (s0 : Int32) (H : HS) : rn 171 68 [l0, l1, l2, l3, l4] [.int s0] H = bnd true 171 68 [l0, l1, l2, l3, l4] [] (rcal 154 [.int s0] H) := rn_cal rfl
theorem x171_71 (l0 l1 l2 l3 l4 : Value) (s0 : Int32) (H : HS) : rn 171 71 [l0, l1, l2, l3, l4] [.int s0] H = rn 171 73 [l0, l1, l2, (kl l3), .int s0] [] H := rn_nx rfl
theorem x171_73 (l1 l2 l3 l4 : Value) (l0 : Nat) (H : HS) : rn 171 73 [.ref l0, l1, l2, l3, l4] [] H = rn 171 74 [.ref l0, l1, l2, l3, l4] [.ref l0] H := rn_nx rfl
theorem x171_74 (l0 l1 l2 l3 l4 : Value) (s0 : Nat) (H : HS) : rn 171 74 [l0, l1, l2, l3, l4] [.ref s0] H = gk 171 77 [l0, l1, l2, l3, l4] [] H (gfd H 5 0 s0) := (rn_ev ..).trans (ev_gk rfl)
theorem x171_77 (l0 l1 l2 l3 l4 : Value) (s0 : Nat) (H : HS) : rn 171 77 [l0, l1, l2, l3, l4] [.ref s0] H = rn 171 78 [l0, l1, l2, l3, l4] [.int 2, .ref s0] H := rn_nx rfl
theorem x171_78 (l0 l1 l2 l3 l4 : Value) (s0 : Int32) (s1 : Nat) (H : HS) : rn 171 78 [l0, l1, l2, l3, l4] [.int s0, .ref s1] H = rn 171 79 [l0, l1, l2, l3, l4] [.int s0, .ref s1, .int s0, .ref s1] H := rn_nx rfl
theorem x171_79 (l0 l1 l2 l3 l4 : Value) (s0 : Int32) (s1 : Nat) (s2 : Int32) (s3 : Nat) (H : HS) : rn 171 79 [l0, l1, l2, l3, l4] [.int s0, .ref s1, .int s2, .ref s3] H = gk 171 80 [l0, l1, l2, l3, l4] [.int s2, .ref s3] H (ald H 100 s1 s0) := (rn_ev ..).trans (ev_gk rfl)
theorem x171_80 (l0 l1 l2 l3 l4 : Value) (s0 : Int32) (s1 : Int32) (s2 : Nat) (H : HS) : rn 171 80 [l0, l1, l2, l3, l4] [.int s0, .int s1, .ref s2] H = rn 171 81 [l0, l1, l2, l3, l4] [.int 1, .int s0, .int s1, .ref s2] H := rn_nx rfl
theorem x171_81 (l0 l1 l2 l3 l4 : Value) (s0 : Int32) (s1 : Int32) (s2 : Int32) (s3 : Nat) (H : HS) : rn 171 81 [l0, l1, l2, l3, l4] [.int s0, .int s1, .int s2, .ref s3] H = rn 171 82 [l0, l1, l2, l3, l4] [.int (s1 + s0), .int s2, .ref s3] H := rn_nx rfl
theorem x171_82 (l0 l1 l2 l3 l4 : Value) (s0 : Int32) (s1 : Int32) (s2 : Nat) (H : HS) : rn 171 82 [l0, l1, l2, l3, l4] [.int s0, .int s1, .ref s2] H = pk 171 83 [l0, l1, l2, l3, l4] [] (ast H 100 s2 s1 (.int s0)) := (rn_ev ..).trans (ev_pk rfl)
theorem x171_83 (l1 l2 l3 l4 : Value) (l0 : Nat) (H : HS) : rn 171 83 [.ref l0, l1, l2, l3, l4] [] H = rn 171 84 [.ref l0, l1, l2, l3, l4] [.ref l0] H := rn_nx rfl
theorem x171_84 (l0 l1 l2 l3 l4 : Value) (s0 : Nat) (H : HS) : rn 171 84 [l0, l1, l2, l3, l4] [.ref s0] H = gk 171 87 [l0, l1, l2, l3, l4] [] H (gfd H 5 0 s0) := (rn_ev ..).trans (ev_gk rfl)
theorem x171_87 (l0 l1 l2 l3 : Value) (l4 : Int32) (s0 : Nat) (H : HS) : rn 171 87 [l0, l1, l2, l3, .int l4] [.ref s0] H = rn 171 89 [l0, l1, l2, l3, .int l4] [.int l4, .ref s0] H := rn_nx rfl
theorem x171_89 (l1 l2 l3 l4 : Value) (l0 : Nat) (s0 : Int32) (s1 : Nat) (H : HS) : rn 171 89 [.ref l0, l1, l2, l3, l4] [.int s0, .ref s1] H = rn 171 90 [.ref l0, l1, l2, l3, l4] [.ref l0, .int s0, .ref s1] H := rn_nx rfl
theorem x171_90 (l0 l1 l2 l3 l4 : Value) (s0 : Nat) (s1 : Int32) (s2 : Nat) (H : HS) : rn 171 90 [l0, l1, l2, l3, l4] [.ref s0, .int s1, .ref s2] H = gk 171 93 [l0, l1, l2, l3, l4] [.int s1, .ref s2] H (gfd H 5 0 s0) := (rn_ev ..).trans (ev_gk rfl)
theorem x171_93 (l0 l1 l2 l3 l4 : Value) (s0 : Nat) (s1 : Int32) (s2 : Nat) (H : HS) : rn 171 93 [l0, l1, l2, l3, l4] [.ref s0, .int s1, .ref s2] H = rn 171 94 [l0, l1, l2, l3, l4] [.int 2, .ref s0, .int s1, .ref s2] H := rn_nx rfl
theorem x171_94 (l0 l1 l2 l3 l4 : Value) (s0 : Int32) (s1 : Nat) (s2 : Int32) (s3 : Nat) (H : HS) : rn 171 94 [l0, l1, l2, l3, l4] [.int s0, .ref s1, .int s2, .ref s3] H = gk 171 95 [l0, l1, l2, l3, l4] [.int s2, .ref s3] H (ald H 100 s1 s0) := (rn_ev ..).trans (ev_gk rfl)
theorem x171_95 (l0 l1 l2 l3 l4 : Value) (s0 : Int32) (s1 : Int32) (s2 : Nat) (H : HS) : rn 171 95 [l0, l1, l2, l3, l4] [.int s0, .int s1, .ref s2] H = pk 171 96 [l0, l1, l2, l3, l4] [] (ast H 100 s2 s1 (.int s0)) := (rn_ev ..).trans (ev_pk rfl)
theorem x171_96 (l1 l2 l3 l4 : Value) (l0 : Nat) (H : HS) : rn 171 96 [.ref l0, l1, l2, l3, l4] [] H = rn 171 97 [.ref l0, l1, l2, l3, l4] [.ref l0] H := rn_nx rfl
theorem x171_97 (l0 l1 l2 l3 l4 : Value) (s0 : Nat) (H : HS) : rn 171 97 [l0, l1, l2, l3, l4] [.ref s0] H = gk 171 100 [l0, l1, l2, l3, l4] [] H (gfd H 5 0 s0) := (rn_ev ..).trans (ev_gk rfl)
theorem x171_100 (l0 l1 l2 l3 : Value) (l4 : Int32) (s0 : Nat) (H : HS) : rn 171 100 [l0, l1, l2, l3, .int l4] [.ref s0] H = rn 171 102 [l0, l1, l2, l3, .int l4] [.int l4, .ref s0] H := rn_nx rfl
theorem x171_102 (l0 l1 l2 l3 l4 : Value) (s0 : Int32) (s1 : Nat) (H : HS) : rn 171 102 [l0, l1, l2, l3, l4] [.int s0, .ref s1] H = rn 171 103 [l0, l1, l2, l3, l4] [.int 1, .int s0, .ref s1] H := rn_nx rfl
theorem x171_103 (l0 l1 l2 l3 l4 : Value) (s0 : Int32) (s1 : Int32) (s2 : Nat) (H : HS) : rn 171 103 [l0, l1, l2, l3, l4] [.int s0, .int s1, .ref s2] H = rn 171 104 [l0, l1, l2, l3, l4] [.int (s1 + s0), .ref s2] H := rn_nx rfl
theorem x171_104 (l0 l2 l3 l4 : Value) (l1 : Int32) (s0 : Int32) (s1 : Nat) (H : HS) : rn 171 104 [l0, .int l1, l2, l3, l4] [.int s0, .ref s1] H = rn 171 105 [l0, .int l1, l2, l3, l4] [.int l1, .int s0, .ref s1] H := rn_nx rfl
theorem x171_105 (l0 l1 l2 l3 l4 : Value) (s0 : Int32) (s1 : Int32) (s2 : Nat) (H : HS) : rn 171 105 [l0, l1, l2, l3, l4] [.int s0, .int s1, .ref s2] H = pk 171 106 [l0, l1, l2, l3, l4] [] (ast H 100 s2 s1 (.int s0)) := (rn_ev ..).trans (ev_pk rfl)
theorem x171_106 (l1 l2 l3 l4 : Value) (l0 : Nat) (H : HS) : rn 171 106 [.ref l0, l1, l2, l3, l4] [] H = rn 171 107 [.ref l0, l1, l2, l3, l4] [.ref l0] H := rn_nx rfl
theorem x171_107 (l0 l1 l2 l3 l4 : Value) (s0 : Nat) (H : HS) : rn 171 107 [l0, l1, l2, l3, l4] [.ref s0] H = gk 171 110 [l0, l1, l2, l3, l4] [] H (gfd H 5 0 s0) := (rn_ev ..).trans (ev_gk rfl)
theorem x171_110 (l0 l1 l2 l3 : Value) (l4 : Int32) (s0 : Nat) (H : HS) : rn 171 110 [l0, l1, l2, l3, .int l4] [.ref s0] H = rn 171 112 [l0, l1, l2, l3, .int l4] [.int l4, .ref s0] H := rn_nx rfl
theorem x171_112 (l0 l1 l2 l3 l4 : Value) (s0 : Int32) (s1 : Nat) (H : HS) : rn 171 112 [l0, l1, l2, l3, l4] [.int s0, .ref s1] H = rn 171 113 [l0, l1, l2, l3, l4] [.int 2, .int s0, .ref s1] H := rn_nx rfl
theorem x171_113 (l0 l1 l2 l3 l4 : Value) (s0 : Int32) (s1 : Int32) (s2 : Nat) (H : HS) : rn 171 113 [l0, l1, l2, l3, l4] [.int s0, .int s1, .ref s2] H = rn 171 114 [l0, l1, l2, l3, l4] [.int (s1 + s0), .ref s2] H := rn_nx rfl
theorem x171_114 (l0 l1 l3 l4 : Value) (l2 : Int32) (s0 : Int32) (s1 : Nat) (H : HS) : rn 171 114 [l0, l1, .int l2, l3, l4] [.int s0, .ref s1] H = rn 171 115 [l0, l1, .int l2, l3, l4] [.int l2, .int s0, .ref s1] H := rn_nx rfl
theorem x171_115 (l0 l1 l2 l3 l4 : Value) (s0 : Int32) (s1 : Int32) (s2 : Nat) (H : HS) : rn 171 115 [l0, l1, l2, l3, l4] [.int s0, .int s1, .ref s2] H = pk 171 116 [l0, l1, l2, l3, l4] [] (ast H 100 s2 s1 (.int s0)) := (rn_ev ..).trans (ev_pk rfl)
theorem x171_116 (l1 l2 l3 l4 : Value) (l0 : Nat) (H : HS) : rn 171 116 [.ref l0, l1, l2, l3, l4] [] H = rn 171 117 [.ref l0, l1, l2, l3, l4] [.ref l0] H := rn_nx rfl
theorem x171_117 (l0 l1 l2 l3 l4 : Value) (s0 : Nat) (H : HS) : rn 171 117 [l0, l1, l2, l3, l4] [.ref s0] H = gk 171 120 [l0, l1, l2, l3, l4] [] H (gfd H 5 0 s0) := (rn_ev ..).trans (ev_gk rfl)
theorem x171_120 (l0 l1 l2 l3 : Value) (l4 : Int32) (s0 : Nat) (H : HS) : rn 171 120 [l0, l1, l2, l3, .int l4] [.ref s0] H = rn 171 122 [l0, l1, l2, l3, .int l4] [.int l4, .ref s0] H := rn_nx rfl
theorem x171_122 (l0 l1 l2 l3 l4 : Value) (s0 : Int32) (s1 : Nat) (H : HS) : rn 171 122 [l0, l1, l2, l3, l4] [.int s0, .ref s1] H = rn 171 123 [l0, l1, l2, l3, l4] [.int 3, .int s0, .ref s1] H := rn_nx rfl
theorem x171_123 (l0 l1 l2 l3 l4 : Value) (s0 : Int32) (s1 : Int32) (s2 : Nat) (H : HS) : rn 171 123 [l0, l1, l2, l3, l4] [.int s0, .int s1, .ref s2] H = rn 171 124 [l0, l1, l2, l3, l4] [.int (s1 + s0), .ref s2] H := rn_nx rfl
theorem x171_124 (l1 l2 l3 l4 : Value) (l0 : Nat) (s0 : Int32) (s1 : Nat) (H : HS) : rn 171 124 [.ref l0, l1, l2, l3, l4] [.int s0, .ref s1] H = rn 171 125 [.ref l0, l1, l2, l3, l4] [.ref l0, .int s0, .ref s1] H := rn_nx rfl
theorem x171_125 (l0 l1 l2 l3 l4 : Value) (s0 : Nat) (s1 : Int32) (s2 : Nat) (H : HS) : rn 171 125 [l0, l1, l2, l3, l4] [.ref s0, .int s1, .ref s2] H = gk 171 128 [l0, l1, l2, l3, l4] [.int s1, .ref s2] H (gfd H 5 0 s0) := (rn_ev ..).trans (ev_gk rfl)
theorem x171_128 (l0 l1 l2 l3 l4 : Value) (s0 : Nat) (s1 : Int32) (s2 : Nat) (H : HS) : rn 171 128 [l0, l1, l2, l3, l4] [.ref s0, .int s1, .ref s2] H = rn 171 129 [l0, l1, l2, l3, l4] [.int 3, .ref s0, .int s1, .ref s2] H := rn_nx rfl
theorem x171_129 (l0 l1 l2 l3 l4 : Value) (s0 : Int32) (s1 : Nat) (s2 : Int32) (s3 : Nat) (H : HS) : rn 171 129 [l0, l1, l2, l3, l4] [.int s0, .ref s1, .int s2, .ref s3] H = gk 171 130 [l0, l1, l2, l3, l4] [.int s2, .ref s3] H (ald H 100 s1 s0) := (rn_ev ..).trans (ev_gk rfl)
theorem x171_130 (l0 l1 l2 l4 : Value) (l3 : Int32) (s0 : Int32) (s1 : Int32) (s2 : Nat) (H : HS) : rn 171 130 [l0, l1, l2, .int l3, l4] [.int s0, .int s1, .ref s2] H = rn 171 131 [l0, l1, l2, .int l3, l4] [.int l3, .int s0, .int s1, .ref s2] H := rn_nx rfl
theorem x171_131 (l0 l1 l2 l3 l4 : Value) (s0 : Int32) (s1 : Int32) (s2 : Int32) (s3 : Nat) (H : HS) : rn 171 131 [l0, l1, l2, l3, l4] [.int s0, .int s1, .int s2, .ref s3] H = rn 171 132 [l0, l1, l2, l3, l4] [.int (s1 + s0), .int s2, .ref s3] H := rn_nx rfl
theorem x171_132 (l0 l1 l2 l3 l4 : Value) (s0 : Int32) (s1 : Int32) (s2 : Nat) (H : HS) : rn 171 132 [l0, l1, l2, l3, l4] [.int s0, .int s1, .ref s2] H = pk 171 133 [l0, l1, l2, l3, l4] [] (ast H 100 s2 s1 (.int s0)) := (rn_ev ..).trans (ev_pk rfl)
theorem x171_133 (l1 l2 l3 l4 : Value) (l0 : Nat) (H : HS) : rn 171 133 [.ref l0, l1, l2, l3, l4] [] H = rn 171 134 [.ref l0, l1, l2, l3, l4] [.ref l0] H := rn_nx rfl
theorem x171_134 (l0 l1 l2 l3 l4 : Value) (s0 : Nat) (H : HS) : rn 171 134 [l0, l1, l2, l3, l4] [.ref s0] H = gk 171 137 [l0, l1, l2, l3, l4] [] H (gfd H 5 0 s0) := (rn_ev ..).trans (ev_gk rfl)
theorem x171_137 (l0 l1 l2 l3 l4 : Value) (s0 : Nat) (H : HS) : rn 171 137 [l0, l1, l2, l3, l4] [.ref s0] H = rn 171 138 [l0, l1, l2, l3, l4] [.int 1, .ref s0] H := rn_nx rfl
theorem x171_138 (l0 l1 l2 l3 l4 : Value) (s0 : Int32) (s1 : Nat) (H : HS) : rn 171 138 [l0, l1, l2, l3, l4] [.int s0, .ref s1] H = rn 171 139 [l0, l1, l2, l3, l4] [.int s0, .ref s1, .int s0, .ref s1] H := rn_nx rfl
theorem x171_139 (l0 l1 l2 l3 l4 : Value) (s0 : Int32) (s1 : Nat) (s2 : Int32) (s3 : Nat) (H : HS) : rn 171 139 [l0, l1, l2, l3, l4] [.int s0, .ref s1, .int s2, .ref s3] H = gk 171 140 [l0, l1, l2, l3, l4] [.int s2, .ref s3] H (ald H 100 s1 s0) := (rn_ev ..).trans (ev_gk rfl)
theorem x171_140 (l0 l1 l2 l3 l4 : Value) (s0 : Int32) (s1 : Int32) (s2 : Nat) (H : HS) : rn 171 140 [l0, l1, l2, l3, l4] [.int s0, .int s1, .ref s2] H = rn 171 141 [l0, l1, l2, l3, l4] [.int 1, .int s0, .int s1, .ref s2] H := rn_nx rfl
theorem x171_141 (l0 l1 l2 l3 l4 : Value) (s0 : Int32) (s1 : Int32) (s2 : Int32) (s3 : Nat) (H : HS) : rn 171 141 [l0, l1, l2, l3, l4] [.int s0, .int s1, .int s2, .ref s3] H = rn 171 142 [l0, l1, l2, l3, l4] [.int (s1 + s0), .int s2, .ref s3] H := rn_nx rfl
theorem x171_142 (l0 l1 l2 l3 l4 : Value) (s0 : Int32) (s1 : Int32) (s2 : Nat) (H : HS) : rn 171 142 [l0, l1, l2, l3, l4] [.int s0, .int s1, .ref s2] H = pk 171 143 [l0, l1, l2, l3, l4] [] (ast H 100 s2 s1 (.int s0)) := (rn_ev ..).trans (ev_pk rfl)
theorem x171_143 (l1 l2 l3 l4 : Value) (l0 : Nat) (H : HS) : rn 171 143 [.ref l0, l1, l2, l3, l4] [] H = rn 171 144 [.ref l0, l1, l2, l3, l4] [.ref l0] H := rn_nx rfl
theorem x171_144 (l0 l1 l2 l3 l4 : Value) (s0 : Nat) (H : HS) : rn 171 144 [l0, l1, l2, l3, l4] [.ref s0] H = gk 171 147 [l0, l1, l2, l3, l4] [] H (gfd H 5 0 s0) := (rn_ev ..).trans (ev_gk rfl)
theorem x171_147 (l0 l1 l2 l3 l4 : Value) (s0 : Nat) (H : HS) : rn 171 147 [l0, l1, l2, l3, l4] [.ref s0] H = rn 171 148 [l0, l1, l2, l3, l4] [.int 2, .ref s0] H := rn_nx rfl
theorem x171_148 (l0 l1 l2 l3 l4 : Value) (s0 : Int32) (s1 : Nat) (H : HS) : rn 171 148 [l0, l1, l2, l3, l4] [.int s0, .ref s1] H = gk 171 149 [l0, l1, l2, l3, l4] [] H (ald H 100 s1 s0) := (rn_ev ..).trans (ev_gk rfl)
theorem x171_149 (l0 l1 l2 l3 l4 : Value) (s0 : Int32) (H : HS) : rn 171 149 [l0, l1, l2, l3, l4] [.int s0] H = some (.inl (some (.int s0)), H) := rn_end rfl
theorem c171 (a0 : Nat) (a1 : Int32) (a2 : Int32) (a3 : Int32) (H : HS) : rcal 171 [.ref a0, .int a1, .int a2, .int a3] H = rn 171 0 [.ref a0, .int a1, .int a2, .int a3, un] [] H := rfl
theorem x172_0 (l1 l2 l3 : Value) (l0 : Nat) (H : HS) : rn 172 0 [.ref l0, l1, l2, l3] [] H = rn 172 1 [.ref l0, l1, l2, l3] [.ref l0] H := rn_nx rfl
theorem x172_1 (l0 l1 l2 l3 : Value) (s0 : Nat) (H : HS) (h : recv H s0 5 = true) : rn 172 1 [l0, l1, l2, l3] [.ref s0] H = bnd true 172 1 [l0, l1, l2, l3] [] (rcal 152 [.ref s0] H) := rn_cal (vcal h rfl)
theorem x172_4 (l1 l2 l3 : Value) (l0 : Nat) (H : HS) : rn 172 4 [.ref l0, l1, l2, l3] [] H = rn 172 5 [.ref l0, l1, l2, l3] [.ref l0] H := rn_nx rfl
theorem x172_5 (l1 l2 l3 : Value) (l0 : Nat) (s0 : Nat) (H : HS) : rn 172 5 [.ref l0, l1, l2, l3] [.ref s0] H = rn 172 6 [.ref l0, l1, l2, l3] [.ref l0, .ref s0] H := rn_nx rfl
theorem x172_6 (l0 l2 l3 : Value) (l1 : Int32) (s0 : Nat) (s1 : Nat) (H : HS) : rn 172 6 [l0, .int l1, l2, l3] [.ref s0, .ref s1] H = rn 172 7 [l0, .int l1, l2, l3] [.int l1, .ref s0, .ref s1] H := rn_nx rfl
theorem x172_7 (l0 l1 l3 : Value) (l2 : Int32) (s0 : Int32) (s1 : Nat) (s2 : Nat) (H : HS) : rn 172 7 [l0, l1, .int l2, l3] [.int s0, .ref s1, .ref s2] H = rn 172 8 [l0, l1, .int l2, l3] [.int l2, .int s0, .ref s1, .ref s2] H := rn_nx rfl
theorem x172_8 (l0 l1 l2 : Value) (l3 : Int32) (s0 : Int32) (s1 : Int32) (s2 : Nat) (s3 : Nat) (H : HS) : rn 172 8 [l0, l1, l2, .int l3] [.int s0, .int s1, .ref s2, .ref s3] H = rn 172 9 [l0, l1, l2, .int l3] [.int l3, .int s0, .int s1, .ref s2, .ref s3] H := rn_nx rfl
theorem x172_9 (l0 l1 l2 l3 : Value) (s0 : Int32) (s1 : Int32) (s2 : Int32) (s3 : Nat) (s4 : Nat) (H : HS) (h : recv H s3 5 = true) : rn 172 9 [l0, l1, l2, l3] [.int s0, .int s1, .int s2, .ref s3, .ref s4] H = bnd true 172 9 [l0, l1, l2, l3] [.ref s4] (rcal 171 [.ref s3, .int s2, .int s1, .int s0] H) := rn_cal (vcal h rfl)
theorem x172_12 (l0 l1 l2 l3 : Value) (s0 : Int32) (s1 : Nat) (H : HS) (h : recv H s1 5 = true) : rn 172 12 [l0, l1, l2, l3] [.int s0, .ref s1] H = bnd true 172 12 [l0, l1, l2, l3] [] (rcal 153 [.ref s1, .int s0] H) := rn_cal (vcal h rfl)
theorem x172_15 (l0 l1 l2 l3 : Value) (s0 : Int32) (H : HS) : rn 172 15 [l0, l1, l2, l3] [.int s0] H = some (.inl (some (.int s0)), H) := rn_end rfl
theorem c172 (a0 : Nat) (a1 : Int32) (a2 : Int32) (a3 : Int32) (H : HS) : rcal 172 [.ref a0, .int a1, .int a2, .int a3] H = rn 172 0 [.ref a0, .int a1, .int a2, .int a3] [] H := rfl
theorem x173_0 (l0 l1 l2 : Value) (H : HS) : rn 173 0 [l0, l1, l2] [] H = rn 173 1 [l0, l1, l2] [.int 0] H := rn_nx rfl
theorem x173_1 (l0 l1 l2 : Value) (s0 : Int32) (H : HS) : rn 173 1 [l0, l1, l2] [.int s0] H = rn 173 2 [(kl l0), .int s0, l2] [] H := rn_nx rfl
theorem x173_2 (l0 l1 l2 : Value) (H : HS) : rn 173 2 [l0, l1, l2] [] H = rn 173 3 [l0, l1, l2] [.int 0] H := rn_nx rfl
theorem x173_3 (l0 l1 l2 : Value) (s0 : Int32) (H : HS) : rn 173 3 [l0, l1, l2] [.int s0] H = rn 173 4 [l0, (kl l1), .int s0] [] H := rn_nx rfl
theorem x173_4 (l0 l1 : Value) (l2 : Int32) (H : HS) : rn 173 4 [l0, l1, .int l2] [] H = rn 173 5 [l0, l1, .int l2] [.int l2] H := rn_nx rfl
theorem x173_5 (l1 l2 : Value) (l0 : Nat) (s0 : Int32) (H : HS) : rn 173 5 [.ref l0, l1, l2] [.int s0] H = rn 173 6 [.ref l0, l1, l2] [.ref l0, .int s0] H := rn_nx rfl
theorem x173_6 (l0 l1 l2 : Value) (s0 : Nat) (s1 : Int32) (H : HS) : rn 173 6 [l0, l1, l2] [.ref s0, .int s1] H = gk 173 9 [l0, l1, l2] [.int s1] H (gfd H 5 0 s0) := (rn_ev ..).trans (ev_gk rfl)
theorem x173_9 (l0 l1 l2 : Value) (s0 : Nat) (s1 : Int32) (H : HS) : rn 173 9 [l0, l1, l2] [.ref s0, .int s1] H = rn 173 10 [l0, l1, l2] [.int 1, .ref s0, .int s1] H := rn_nx rfl
theorem x173_10 (l0 l1 l2 : Value) (s0 : Int32) (s1 : Nat) (s2 : Int32) (H : HS) : rn 173 10 [l0, l1, l2] [.int s0, .ref s1, .int s2] H = gk 173 11 [l0, l1, l2] [.int s2] H (ald H 100 s1 s0) := (rn_ev ..).trans (ev_gk rfl)
theorem x173_11 (l0 l1 l2 : Value) (s0 : Int32) (s1 : Int32) (H : HS) : rn 173 11 [l0, l1, l2] [.int s0, .int s1] H = if s1 < s0 then rn 173 14 [l0, l1, l2] [] H else rn 173 35 [l0, l1, l2] [] H := (rn_ev ..).trans (ev_bin rfl)
theorem x173_14 (l0 l2 : Value) (l1 : Int32) (H : HS) : rn 173 14 [l0, .int l1, l2] [] H = rn 173 15 [l0, .int l1, l2] [.int l1] H := rn_nx rfl
theorem x173_15 (l1 l2 : Value) (l0 : Nat) (s0 : Int32) (H : HS) : rn 173 15 [.ref l0, l1, l2] [.int s0] H = rn 173 16 [.ref l0, l1, l2] [.ref l0, .int s0] H := rn_nx rfl
theorem x173_16 (l0 l1 l2 : Value) (s0 : Nat) (s1 : Int32) (H : HS) : rn 173 16 [l0, l1, l2] [.ref s0, .int s1] H = gk 173 19 [l0, l1, l2] [.int s1] H (gfd H 5 0 s0) := (rn_ev ..).trans (ev_gk rfl)
theorem x173_19 (l0 l1 : Value) (l2 : Int32) (s0 : Nat) (s1 : Int32) (H : HS) : rn 173 19 [l0, l1, .int l2] [.ref s0, .int s1] H = rn 173 20 [l0, l1, .int l2] [.int l2, .ref s0, .int s1] H := rn_nx rfl
theorem x173_20 (l0 l1 l2 : Value) (s0 : Int32) (s1 : Nat) (s2 : Int32) (H : HS) : rn 173 20 [l0, l1, l2] [.int s0, .ref s1, .int s2] H = bnd true 173 20 [l0, l1, l2] [.ref s1, .int s2] (rcal 154 [.int s0] H) := rn_cal rfl
theorem x173_23 (l0 l1 l2 : Value) (s0 : Int32) (s1 : Nat) (s2 : Int32) (H : HS) : rn 173 23 [l0, l1, l2] [.int s0, .ref s1, .int s2] H = rn 173 25 [l0, l1, l2] [.int 7, .int s0, .ref s1, .int s2] H := rn_nx rfl
theorem x173_25 (l0 l1 l2 : Value) (s0 : Int32) (s1 : Int32) (s2 : Nat) (s3 : Int32) (H : HS) : rn 173 25 [l0, l1, l2] [.int s0, .int s1, .ref s2, .int s3] H = rn 173 26 [l0, l1, l2] [.int (s1 + s0), .ref s2, .int s3] H := rn_nx rfl
theorem x173_26 (l0 l1 l2 : Value) (s0 : Int32) (s1 : Nat) (s2 : Int32) (H : HS) : rn 173 26 [l0, l1, l2] [.int s0, .ref s1, .int s2] H = gk 173 27 [l0, l1, l2] [.int s2] H (ald H 100 s1 s0) := (rn_ev ..).trans (ev_gk rfl)
theorem x173_27 (l0 l1 l2 : Value) (s0 : Int32) (s1 : Int32) (H : HS) : rn 173 27 [l0, l1, l2] [.int s0, .int s1] H = rn 173 28 [l0, l1, l2] [.int (s1 + s0)] H := rn_nx rfl
theorem x173_28 (l0 l1 l2 : Value) (s0 : Int32) (H : HS) : rn 173 28 [l0, l1, l2] [.int s0] H = rn 173 29 [(kl l0), .int s0, l2] [] H := rn_nx rfl
theorem x173_29 (l0 l1 : Value) (l2 : Int32) (H : HS) : rn 173 29 [l0, l1, .int l2] [] H = rn 173 32 [l0, (kl l1), .int (l2 + 1)] [] H := rn_nx rfl
theorem x173_32 (l0 l1 l2 : Value) (H : HS) : rn 173 32 [l0, l1, l2] [] H = rn 173 4 [l0, l1, l2] [] H := rn_nx rfl
theorem x173_35 (l0 l2 : Value) (l1 : Int32) (H : HS) : rn 173 35 [l0, .int l1, l2] [] H = rn 173 36 [l0, .int l1, l2] [.int l1] H := rn_nx rfl
theorem x173_36 (l0 l1 l2 : Value) (s0 : Int32) (H : HS) : rn 173 36 [l0, l1, l2] [.int s0] H = some (.inl (some (.int s0)), H) := rn_end rfl
theorem c173 (a0 : Nat) (H : HS) : rcal 173 [.ref a0] H = rn 173 0 [.ref a0, un, un] [] H := rfl
theorem x174_0 (l1 l2 l3 : Value) (l0 : Nat) (H : HS) : rn 174 0 [.ref l0, l1, l2, l3] [] H = rn 174 1 [.ref l0, l1, l2, l3] [.ref l0] H := rn_nx rfl
theorem x174_1 (l0 l2 l3 : Value) (l1 : Int32) (s0 : Nat) (H : HS) : rn 174 1 [l0, .int l1, l2, l3] [.ref s0] H = rn 174 2 [l0, .int l1, l2, l3] [.int l1, .ref s0] H := rn_nx rfl
theorem x174_2 (l0 l1 l2 l3 : Value) (s0 : Int32) (s1 : Nat) (H : HS) (h : recv H s1 5 = true) : rn 174 2 [l0, l1, l2, l3] [.int s0, .ref s1] H = bnd true 174 2 [l0, l1, l2, l3] [] (rcal 157 [.ref s1, .int s0] H) := rn_cal (vcal h rfl)
theorem x174_5 (l0 l1 l2 l3 : Value) (s0 : Int32) (H : HS) : rn 174 5 [l0, l1, l2, l3] [.int s0] H = rn 174 6 [l0, l1, (kl l2), .int s0] [] H := rn_nx rfl
theorem x174_6 (l0 l1 l2 : Value) (l3 : Int32) (H : HS) : rn 174 6 [l0, l1, l2, .int l3] [] H = rn 174 7 [l0, l1, l2, .int l3] [.int l3] H := rn_nx rfl
theorem x174_7 (l0 l1 l2 l3 : Value) (s0 : Int32) (H : HS) : rn 174 7 [l0, l1, l2, l3] [.int s0] H = rn 174 8 [l0, l1, l2, l3] [.int (-1), .int s0] H := rn_nx rfl
theorem x174_8 (l0 l1 l2 l3 : Value) (s0 : Int32) (s1 : Int32) (H : HS) : rn 174 8 [l0, l1, l2, l3] [.int s0, .int s1] H = if s1 = s0 then rn 174 11 [l0, l1, l2, l3] [] H else rn 174 17 [l0, l1, l2, l3] [] H := (rn_ev ..).trans (ev_bin rfl)
theorem x174_11 (l1 l2 l3 : Value) (l0 : Nat) (H : HS) : rn 174 11 [.ref l0, l1, l2, l3] [] H = rn 174 12 [.ref l0, l1, l2, l3] [.ref l0] H := rn_nx rfl
theorem x174_12 (l0 l1 l2 l3 : Value) (s0 : Nat) (H : HS) : rn 174 12 [l0, l1, l2, l3] [.ref s0] H = rn 174 13 [l0, l1, l2, l3] [.int 1, .ref s0] H := rn_nx rfl
theorem x174_13 (l0 l1 l2 l3 : Value) (s0 : Int32) (s1 : Nat) (H : HS) (h : recv H s1 5 = true) : rn 174 13 [l0, l1, l2, l3] [.int s0, .ref s1] H = bnd true 174 13 [l0, l1, l2, l3] [] (rcal 150 [.ref s1, .int s0] H) := rn_cal (vcal h rfl)
theorem x174_16 (l0 l1 l2 l3 : Value) (s0 : Int32) (H : HS) : rn 174 16 [l0, l1, l2, l3] [.int s0] H = some (.inl (some (.int s0)), H) := rn_end rfl
theorem x174_17 (l1 l2 l3 : Value) (l0 : Nat) (H : HS) : rn 174 17 [.ref l0, l1, l2, l3] [] H = rn 174 18 [.ref l0, l1, l2, l3] [.ref l0] H := rn_nx rfl
theorem x174_18 (l0 l1 l2 l3 : Value) (s0 : Nat) (H : HS) : rn 174 18 [l0, l1, l2, l3] [.ref s0] H = gk 174 21 [l0, l1, l2, l3] [] H (gfd H 5 0 s0) := (rn_ev ..).trans (ev_gk rfl)
theorem x174_21 (l0 l1 l2 : Value) (l3 : Int32) (s0 : Nat) (H : HS) : rn 174 21 [l0, l1, l2, .int l3] [.ref s0] H = rn 174 22 [l0, l1, l2, .int l3] [.int l3, .ref s0] H := rn_nx rfl
theorem x174_22 (l0 l1 l2 l3 : Value) (s0 : Int32) (s1 : Nat) (H : HS) : rn 174 22 [l0, l1, l2, l3] [.int s0, .ref s1] H = bnd true 174 22 [l0, l1, l2, l3] [.ref s1] (rcal 154 [.int s0] H) := rn_cal rfl
theorem x174_25 (l0 l1 l2 l3 : Value) (s0 : Int32) (s1 : Nat) (H : HS) : rn 174 25 [l0, l1, l2, l3] [.int s0, .ref s1] H = rn 174 27 [l0, l1, l2, l3] [.int 7, .int s0, .ref s1] H := rn_nx rfl
theorem x174_27 (l0 l1 l2 l3 : Value) (s0 : Int32) (s1 : Int32) (s2 : Nat) (H : HS) : rn 174 27 [l0, l1, l2, l3] [.int s0, .int s1, .ref s2] H = rn 174 28 [l0, l1, l2, l3] [.int (s1 + s0), .ref s2] H := rn_nx rfl
theorem x174_28 (l0 l1 l2 l3 : Value) (s0 : Int32) (s1 : Nat) (H : HS) : rn 174 28 [l0, l1, l2, l3] [.int s0, .ref s1] H = gk 174 29 [l0, l1, l2, l3] [] H (ald H 100 s1 s0) := (rn_ev ..).trans (ev_gk rfl)
theorem x174_29 (l0 l1 l3 : Value) (l2 : Int32) (s0 : Int32) (H : HS) : rn 174 29 [l0, l1, .int l2, l3] [.int s0] H = rn 174 30 [l0, l1, .int l2, l3] [.int l2, .int s0] H := rn_nx rfl
theorem x174_30 (l0 l1 l2 l3 : Value) (s0 : Int32) (s1 : Int32) (H : HS) : rn 174 30 [l0, l1, l2, l3] [.int s0, .int s1] H = if s1 = s0 then rn 174 33 [l0, l1, l2, l3] [] H else rn 174 39 [l0, l1, l2, l3] [] H := (rn_ev ..).trans (ev_bin rfl)
theorem x174_33 (l1 l2 l3 : Value) (l0 : Nat) (H : HS) : rn 174 33 [.ref l0, l1, l2, l3] [] H = rn 174 34 [.ref l0, l1, l2, l3] [.ref l0] H := rn_nx rfl
theorem x174_34 (l0 l1 l2 l3 : Value) (s0 : Nat) (H : HS) : rn 174 34 [l0, l1, l2, l3] [.ref s0] H = rn 174 35 [l0, l1, l2, l3] [.int 2, .ref s0] H := rn_nx rfl
theorem x174_35 (l0 l1 l2 l3 : Value) (s0 : Int32) (s1 : Nat) (H : HS) (h : recv H s1 5 = true) : rn 174 35 [l0, l1, l2, l3] [.int s0, .ref s1] H = bnd true 174 35 [l0, l1, l2, l3] [] (rcal 150 [.ref s1, .int s0] H) := rn_cal (vcal h rfl)
theorem x174_38 (l0 l1 l2 l3 : Value) (s0 : Int32) (H : HS) : rn 174 38 [l0, l1, l2, l3] [.int s0] H = some (.inl (some (.int s0)), H) := rn_end rfl
theorem x174_39 (l1 l2 l3 : Value) (l0 : Nat) (H : HS) : rn 174 39 [.ref l0, l1, l2, l3] [] H = rn 174 40 [.ref l0, l1, l2, l3] [.ref l0] H := rn_nx rfl
theorem x174_40 (l0 l1 l2 l3 : Value) (s0 : Nat) (H : HS) : rn 174 40 [l0, l1, l2, l3] [.ref s0] H = gk 174 43 [l0, l1, l2, l3] [] H (gfd H 5 0 s0) := (rn_ev ..).trans (ev_gk rfl)
theorem x174_43 (l0 l1 l2 : Value) (l3 : Int32) (s0 : Nat) (H : HS) : rn 174 43 [l0, l1, l2, .int l3] [.ref s0] H = rn 174 44 [l0, l1, l2, .int l3] [.int l3, .ref s0] H := rn_nx rfl
theorem x174_44 (l0 l1 l2 l3 : Value) (s0 : Int32) (s1 : Nat) (H : HS) : rn 174 44 [l0, l1, l2, l3] [.int s0, .ref s1] H = bnd true 174 44 [l0, l1, l2, l3] [.ref s1] (rcal 154 [.int s0] H) := rn_cal rfl
theorem x174_47 (l0 l1 l2 l3 : Value) (s0 : Int32) (s1 : Nat) (H : HS) : rn 174 47 [l0, l1, l2, l3] [.int s0, .ref s1] H = rn 174 49 [l0, l1, l2, l3] [.int 7, .int s0, .ref s1] H := rn_nx rfl
theorem x174_49 (l0 l1 l2 l3 : Value) (s0 : Int32) (s1 : Int32) (s2 : Nat) (H : HS) : rn 174 49 [l0, l1, l2, l3] [.int s0, .int s1, .ref s2] H = rn 174 50 [l0, l1, l2, l3] [.int (s1 + s0), .ref s2] H := rn_nx rfl
theorem x174_50 (l0 l1 l3 : Value) (l2 : Int32) (s0 : Int32) (s1 : Nat) (H : HS) : rn 174 50 [l0, l1, .int l2, l3] [.int s0, .ref s1] H = rn 174 51 [l0, l1, .int l2, l3] [.int l2, .int s0, .ref s1] H := rn_nx rfl
theorem x174_51 (l0 l1 l2 l3 : Value) (s0 : Int32) (s1 : Int32) (s2 : Nat) (H : HS) : rn 174 51 [l0, l1, l2, l3] [.int s0, .int s1, .ref s2] H = pk 174 52 [l0, l1, l2, l3] [] (ast H 100 s2 s1 (.int s0)) := (rn_ev ..).trans (ev_pk rfl)
theorem x174_52 (l1 l2 l3 : Value) (l0 : Nat) (H : HS) : rn 174 52 [.ref l0, l1, l2, l3] [] H = rn 174 53 [.ref l0, l1, l2, l3] [.ref l0] H := rn_nx rfl
theorem x174_53 (l0 l1 l2 l3 : Value) (s0 : Nat) (H : HS) (h : recv H s0 5 = true) : rn 174 53 [l0, l1, l2, l3] [.ref s0] H = bnd true 174 53 [l0, l1, l2, l3] [] (rcal 173 [.ref s0] H) := rn_cal (vcal h rfl)
theorem x174_56 (l0 l1 l2 l3 : Value) (s0 : Int32) (H : HS) : rn 174 56 [l0, l1, l2, l3] [.int s0] H = some (.inl (some (.int s0)), H) := rn_end rfl
theorem c174 (a0 : Nat) (a1 : Int32) (a2 : Int32) (H : HS) : rcal 174 [.ref a0, .int a1, .int a2] H = rn 174 0 [.ref a0, .int a1, .int a2, un] [] H := rfl
theorem x175_0 (l1 : Value) (l0 : Nat) (H : HS) : rn 175 0 [.ref l0, l1] [] H = rn 175 1 [.ref l0, l1] [.ref l0] H := rn_nx rfl
theorem x175_1 (l0 l1 : Value) (s0 : Nat) (H : HS) (h : recv H s0 5 = true) : rn 175 1 [l0, l1] [.ref s0] H = bnd true 175 1 [l0, l1] [] (rcal 152 [.ref s0] H) := rn_cal (vcal h rfl)
theorem x175_4 (l1 : Value) (l0 : Nat) (H : HS) : rn 175 4 [.ref l0, l1] [] H = rn 175 5 [.ref l0, l1] [.ref l0] H := rn_nx rfl
theorem x175_5 (l1 : Value) (l0 : Nat) (s0 : Nat) (H : HS) : rn 175 5 [.ref l0, l1] [.ref s0] H = rn 175 6 [.ref l0, l1] [.ref l0, .ref s0] H := rn_nx rfl
theorem x175_6 (l0 : Value) (l1 : Int32) (s0 : Nat) (s1 : Nat) (H : HS) : rn 175 6 [l0, .int l1] [.ref s0, .ref s1] H = rn 175 7 [l0, .int l1] [.int l1, .ref s0, .ref s1] H := rn_nx rfl
theorem x175_7 (l0 l1 : Value) (s0 : Int32) (s1 : Nat) (s2 : Nat) (H : HS) : rn 175 7 [l0, l1] [.int s0, .ref s1, .ref s2] H = rn 175 8 [l0, l1] [.int 1, .int s0, .ref s1, .ref s2] H := rn_nx rfl
theorem x175_8 (l0 l1 : Value) (s0 : Int32) (s1 : Int32) (s2 : Nat) (s3 : Nat) (H : HS) (h : recv H s2 5 = true) : rn 175 8 [l0, l1] [.int s0, .int s1, .ref s2, .ref s3] H = bnd true 175 8 [l0, l1] [.ref s3] (rcal 174 [.ref s2, .int s1, .int s0] H) := rn_cal (vcal h rfl)
theorem x175_11 (l0 l1 : Value) (s0 : Int32) (s1 : Nat) (H : HS) (h : recv H s1 5 = true) : rn 175 11 [l0, l1] [.int s0, .ref s1] H = bnd true 175 11 [l0, l1] [] (rcal 153 [.ref s1, .int s0] H) := rn_cal (vcal h rfl)
theorem x175_14 (l0 l1 : Value) (s0 : Int32) (H : HS) : rn 175 14 [l0, l1] [.int s0] H = some (.inl (some (.int s0)), H) := rn_end rfl
theorem c175 (a0 : Nat) (a1 : Int32) (H : HS) : rcal 175 [.ref a0, .int a1] H = rn 175 0 [.ref a0, .int a1] [] H := rfl
theorem x176_0 (l1 : Value) (l0 : Nat) (H : HS) : rn 176 0 [.ref l0, l1] [] H = rn 176 1 [.ref l0, l1] [.ref l0] H := rn_nx rfl
theorem x176_1 (l0 l1 : Value) (s0 : Nat) (H : HS) (h : recv H s0 5 = true) : rn 176 1 [l0, l1] [.ref s0] H = bnd true 176 1 [l0, l1] [] (rcal 152 [.ref s0] H) := rn_cal (vcal h rfl)
theorem x176_4 (l1 : Value) (l0 : Nat) (H : HS) : rn 176 4 [.ref l0, l1] [] H = rn 176 5 [.ref l0, l1] [.ref l0] H := rn_nx rfl
theorem x176_5 (l1 : Value) (l0 : Nat) (s0 : Nat) (H : HS) : rn 176 5 [.ref l0, l1] [.ref s0] H = rn 176 6 [.ref l0, l1] [.ref l0, .ref s0] H := rn_nx rfl
theorem x176_6 (l0 : Value) (l1 : Int32) (s0 : Nat) (s1 : Nat) (H : HS) : rn 176 6 [l0, .int l1] [.ref s0, .ref s1] H = rn 176 7 [l0, .int l1] [.int l1, .ref s0, .ref s1] H := rn_nx rfl
theorem x176_7 (l0 l1 : Value) (s0 : Int32) (s1 : Nat) (s2 : Nat) (H : HS) : rn 176 7 [l0, l1] [.int s0, .ref s1, .ref s2] H = rn 176 8 [l0, l1] [.int 0, .int s0, .ref s1, .ref s2] H := rn_nx rfl
theorem x176_8 (l0 l1 : Value) (s0 : Int32) (s1 : Int32) (s2 : Nat) (s3 : Nat) (H : HS) (h : recv H s2 5 = true) : rn 176 8 [l0, l1] [.int s0, .int s1, .ref s2, .ref s3] H = bnd true 176 8 [l0, l1] [.ref s3] (rcal 174 [.ref s2, .int s1, .int s0] H) := rn_cal (vcal h rfl)
theorem x176_11 (l0 l1 : Value) (s0 : Int32) (s1 : Nat) (H : HS) (h : recv H s1 5 = true) : rn 176 11 [l0, l1] [.int s0, .ref s1] H = bnd true 176 11 [l0, l1] [] (rcal 153 [.ref s1, .int s0] H) := rn_cal (vcal h rfl)
theorem x176_14 (l0 l1 : Value) (s0 : Int32) (H : HS) : rn 176 14 [l0, l1] [.int s0] H = some (.inl (some (.int s0)), H) := rn_end rfl
theorem c176 (a0 : Nat) (a1 : Int32) (H : HS) : rcal 176 [.ref a0, .int a1] H = rn 176 0 [.ref a0, .int a1] [] H := rfl
theorem x177_0 (l1 l2 : Value) (l0 : Nat) (H : HS) : rn 177 0 [.ref l0, l1, l2] [] H = rn 177 1 [.ref l0, l1, l2] [.ref l0] H := rn_nx rfl
theorem x177_1 (l0 l2 : Value) (l1 : Int32) (s0 : Nat) (H : HS) : rn 177 1 [l0, .int l1, l2] [.ref s0] H = rn 177 2 [l0, .int l1, l2] [.int l1, .ref s0] H := rn_nx rfl
theorem x177_2 (l0 l1 l2 : Value) (s0 : Int32) (s1 : Nat) (H : HS) (h : recv H s1 5 = true) : rn 177 2 [l0, l1, l2] [.int s0, .ref s1] H = bnd true 177 2 [l0, l1, l2] [] (rcal 157 [.ref s1, .int s0] H) := rn_cal (vcal h rfl)
theorem x177_5 (l0 l1 l2 : Value) (s0 : Int32) (H : HS) : rn 177 5 [l0, l1, l2] [.int s0] H = rn 177 6 [l0, (kl l1), .int s0] [] H := rn_nx rfl
theorem x177_6 (l0 l1 : Value) (l2 : Int32) (H : HS) : rn 177 6 [l0, l1, .int l2] [] H = rn 177 7 [l0, l1, .int l2] [.int l2] H := rn_nx rfl
theorem x177_7 (l0 l1 l2 : Value) (s0 : Int32) (H : HS) : rn 177 7 [l0, l1, l2] [.int s0] H = rn 177 8 [l0, l1, l2] [.int (-1), .int s0] H := rn_nx rfl
theorem x177_8 (l0 l1 l2 : Value) (s0 : Int32) (s1 : Int32) (H : HS) : rn 177 8 [l0, l1, l2] [.int s0, .int s1] H = if s1 = s0 then rn 177 11 [l0, l1, l2] [] H else rn 177 17 [l0, l1, l2] [] H := (rn_ev ..).trans (ev_bin rfl)
theorem x177_11 (l1 l2 : Value) (l0 : Nat) (H : HS) : rn 177 11 [.ref l0, l1, l2] [] H = rn 177 12 [.ref l0, l1, l2] [.ref l0] H := rn_nx rfl
theorem x177_12 (l0 l1 l2 : Value) (s0 : Nat) (H : HS) : rn 177 12 [l0, l1, l2] [.ref s0] H = rn 177 13 [l0, l1, l2] [.int 1, .ref s0] H := rn_nx rfl
theorem x177_13 (l0 l1 l2 : Value) (s0 : Int32) (s1 : Nat) (H : HS) (h : recv H s1 5 = true) : rn 177 13 [l0, l1, l2] [.int s0, .ref s1] H = bnd true 177 13 [l0, l1, l2] [] (rcal 150 [.ref s1, .int s0] H) := rn_cal (vcal h rfl)
theorem x177_16 (l0 l1 l2 : Value) (s0 : Int32) (H : HS) : rn 177 16 [l0, l1, l2] [.int s0] H = some (.inl (some (.int s0)), H) := rn_end rfl
theorem x177_17 (l1 l2 : Value) (l0 : Nat) (H : HS) : rn 177 17 [.ref l0, l1, l2] [] H = rn 177 18 [.ref l0, l1, l2] [.ref l0] H := rn_nx rfl
theorem x177_18 (l0 l1 l2 : Value) (s0 : Nat) (H : HS) : rn 177 18 [l0, l1, l2] [.ref s0] H = gk 177 21 [l0, l1, l2] [] H (gfd H 5 0 s0) := (rn_ev ..).trans (ev_gk rfl)
theorem x177_21 (l0 l1 : Value) (l2 : Int32) (s0 : Nat) (H : HS) : rn 177 21 [l0, l1, .int l2] [.ref s0] H = rn 177 22 [l0, l1, .int l2] [.int l2, .ref s0] H := rn_nx rfl
theorem x177_22 (l0 l1 l2 : Value) (s0 : Int32) (s1 : Nat) (H : HS) : rn 177 22 [l0, l1, l2] [.int s0, .ref s1] H = bnd true 177 22 [l0, l1, l2] [.ref s1] (rcal 154 [.int s0] H) := rn_cal rfl
theorem x177_25 (l0 l1 l2 : Value) (s0 : Int32) (s1 : Nat) (H : HS) : rn 177 25 [l0, l1, l2] [.int s0, .ref s1] H = rn 177 26 [l0, l1, l2] [.int 4, .int s0, .ref s1] H := rn_nx rfl
theorem x177_26 (l0 l1 l2 : Value) (s0 : Int32) (s1 : Int32) (s2 : Nat) (H : HS) : rn 177 26 [l0, l1, l2] [.int s0, .int s1, .ref s2] H = rn 177 27 [l0, l1, l2] [.int (s1 + s0), .ref s2] H := rn_nx rfl
theorem x177_27 (l0 l1 l2 : Value) (s0 : Int32) (s1 : Nat) (H : HS) : rn 177 27 [l0, l1, l2] [.int s0, .ref s1] H = gk 177 28 [l0, l1, l2] [] H (ald H 100 s1 s0) := (rn_ev ..).trans (ev_gk rfl)
theorem x177_28 (l0 l1 l2 : Value) (s0 : Int32) (H : HS) : rn 177 28 [l0, l1, l2] [.int s0] H = rn 177 29 [l0, l1, l2] [.int 2, .int s0] H := rn_nx rfl
theorem x177_29 (l0 l1 l2 : Value) (s0 : Int32) (s1 : Int32) (H : HS) : rn 177 29 [l0, l1, l2] [.int s0, .int s1] H = if s1 = s0 then rn 177 32 [l0, l1, l2] [] H else rn 177 38 [l0, l1, l2] [] H := (rn_ev ..).trans (ev_bin rfl)
theorem x177_32 (l1 l2 : Value) (l0 : Nat) (H : HS) : rn 177 32 [.ref l0, l1, l2] [] H = rn 177 33 [.ref l0, l1, l2] [.ref l0] H := rn_nx rfl
theorem x177_33 (l0 l1 l2 : Value) (s0 : Nat) (H : HS) : rn 177 33 [l0, l1, l2] [.ref s0] H = rn 177 34 [l0, l1, l2] [.int 2, .ref s0] H := rn_nx rfl
theorem x177_34 (l0 l1 l2 : Value) (s0 : Int32) (s1 : Nat) (H : HS) (h : recv H s1 5 = true) : rn 177 34 [l0, l1, l2] [.int s0, .ref s1] H = bnd true 177 34 [l0, l1, l2] [] (rcal 150 [.ref s1, .int s0] H) := rn_cal (vcal h rfl)
theorem x177_37 (l0 l1 l2 : Value) (s0 : Int32) (H : HS) : rn 177 37 [l0, l1, l2] [.int s0] H = some (.inl (some (.int s0)), H) := rn_end rfl
theorem x177_38 (l1 l2 : Value) (l0 : Nat) (H : HS) : rn 177 38 [.ref l0, l1, l2] [] H = rn 177 39 [.ref l0, l1, l2] [.ref l0] H := rn_nx rfl
theorem x177_39 (l0 l1 : Value) (l2 : Int32) (s0 : Nat) (H : HS) : rn 177 39 [l0, l1, .int l2] [.ref s0] H = rn 177 40 [l0, l1, .int l2] [.int l2, .ref s0] H := rn_nx rfl
theorem x177_40 (l0 l1 l2 : Value) (s0 : Int32) (s1 : Nat) (H : HS) (h : recv H s1 5 = true) : rn 177 40 [l0, l1, l2] [.int s0, .ref s1] H = bnd true 177 40 [l0, l1, l2] [] (rcal 166 [.ref s1, .int s0] H) := rn_cal (vcal h rfl)
theorem x177_43 (l1 l2 : Value) (l0 : Nat) (H : HS) : rn 177 43 [.ref l0, l1, l2] [] H = rn 177 44 [.ref l0, l1, l2] [.ref l0] H := rn_nx rfl
theorem x177_44 (l0 l1 l2 : Value) (s0 : Nat) (H : HS) : rn 177 44 [l0, l1, l2] [.ref s0] H = gk 177 47 [l0, l1, l2] [] H (gfd H 5 0 s0) := (rn_ev ..).trans (ev_gk rfl)
theorem x177_47 (l0 l1 l2 : Value) (s0 : Nat) (H : HS) : rn 177 47 [l0, l1, l2] [.ref s0] H = rn 177 48 [l0, l1, l2] [.int 1, .ref s0] H := rn_nx rfl
theorem x177_48 (l0 l1 l2 : Value) (s0 : Int32) (s1 : Nat) (H : HS) : rn 177 48 [l0, l1, l2] [.int s0, .ref s1] H = gk 177 49 [l0, l1, l2] [] H (ald H 100 s1 s0) := (rn_ev ..).trans (ev_gk rfl)
theorem x177_49 (l0 l1 l2 : Value) (s0 : Int32) (H : HS) : rn 177 49 [l0, l1, l2] [.int s0] H = some (.inl (some (.int s0)), H) := rn_end rfl
theorem c177 (a0 : Nat) (a1 : Int32) (H : HS) : rcal 177 [.ref a0, .int a1] H = rn 177 0 [.ref a0, .int a1, un] [] H := rfl
theorem x178_0 (l1 : Value) (l0 : Nat) (H : HS) : rn 178 0 [.ref l0, l1] [] H = rn 178 1 [.ref l0, l1] [.ref l0] H := rn_nx rfl
theorem x178_1 (l0 l1 : Value) (s0 : Nat) (H : HS) (h : recv H s0 5 = true) : rn 178 1 [l0, l1] [.ref s0] H = bnd true 178 1 [l0, l1] [] (rcal 152 [.ref s0] H) := rn_cal (vcal h rfl)
theorem x178_4 (l1 : Value) (l0 : Nat) (H : HS) : rn 178 4 [.ref l0, l1] [] H = rn 178 5 [.ref l0, l1] [.ref l0] H := rn_nx rfl
theorem x178_5 (l1 : Value) (l0 : Nat) (s0 : Nat) (H : HS) : rn 178 5 [.ref l0, l1] [.ref s0] H = rn 178 6 [.ref l0, l1] [.ref l0, .ref s0] H := rn_nx rfl
theorem x178_6 (l0 : Value) (l1 : Int32) (s0 : Nat) (s1 : Nat) (H : HS) : rn 178 6 [l0, .int l1] [.ref s0, .ref s1] H = rn 178 7 [l0, .int l1] [.int l1, .ref s0, .ref s1] H := rn_nx rfl
theorem x178_7 (l0 l1 : Value) (s0 : Int32) (s1 : Nat) (s2 : Nat) (H : HS) (h : recv H s1 5 = true) : rn 178 7 [l0, l1] [.int s0, .ref s1, .ref s2] H = bnd true 178 7 [l0, l1] [.ref s2] (rcal 177 [.ref s1, .int s0] H) := rn_cal (vcal h rfl)
theorem x178_10 (l0 l1 : Value) (s0 : Int32) (s1 : Nat) (H : HS) (h : recv H s1 5 = true) : rn 178 10 [l0, l1] [.int s0, .ref s1] H = bnd true 178 10 [l0, l1] [] (rcal 153 [.ref s1, .int s0] H) := rn_cal (vcal h rfl)
theorem x178_13 (l0 l1 : Value) (s0 : Int32) (H : HS) : rn 178 13 [l0, l1] [.int s0] H = some (.inl (some (.int s0)), H) := rn_end rfl
theorem c178 (a0 : Nat) (a1 : Int32) (H : HS) : rcal 178 [.ref a0, .int a1] H = rn 178 0 [.ref a0, .int a1] [] H := rfl
theorem x179_0 (l0 l1 l2 l3 : Value) (H : HS) : rn 179 0 [l0, l1, l2, l3] [] H = rn 179 1 [l0, l1, l2, l3] [.int 0] H := rn_nx rfl
theorem x179_1 (l0 l1 l2 l3 : Value) (s0 : Int32) (H : HS) : rn 179 1 [l0, l1, l2, l3] [.int s0] H = rn 179 2 [l0, (kl l1), .int s0, l3] [] H := rn_nx rfl
theorem x179_2 (l0 l1 l2 l3 : Value) (H : HS) : rn 179 2 [l0, l1, l2, l3] [] H = rn 179 3 [l0, l1, l2, l3] [.int 0] H := rn_nx rfl
theorem x179_3 (l0 l1 l2 l3 : Value) (s0 : Int32) (H : HS) : rn 179 3 [l0, l1, l2, l3] [.int s0] H = rn 179 4 [l0, l1, (kl l2), .int s0] [] H := rn_nx rfl
theorem x179_4 (l0 l1 l2 : Value) (l3 : Int32) (H : HS) : rn 179 4 [l0, l1, l2, .int l3] [] H = rn 179 5 [l0, l1, l2, .int l3] [.int l3] H := rn_nx rfl
theorem x179_5 (l1 l2 l3 : Value) (l0 : Nat) (s0 : Int32) (H : HS) : rn 179 5 [.ref l0, l1, l2, l3] [.int s0] H = rn 179 6 [.ref l0, l1, l2, l3] [.ref l0, .int s0] H := rn_nx rfl
theorem x179_6 (l0 l1 l2 l3 : Value) (s0 : Nat) (s1 : Int32) (H : HS) : rn 179 6 [l0, l1, l2, l3] [.ref s0, .int s1] H = gk 179 9 [l0, l1, l2, l3] [.int s1] H (gfd H 5 13 s0) := (rn_ev ..).trans (ev_gk rfl)
theorem x179_9 (l0 l1 l2 l3 : Value) (s0 : Int32) (s1 : Int32) (H : HS) : rn 179 9 [l0, l1, l2, l3] [.int s0, .int s1] H = if s1 < s0 then rn 179 12 [l0, l1, l2, l3] [] H else rn 179 38 [l0, l1, l2, l3] [] H := (rn_ev ..).trans (ev_bin rfl)
theorem x179_12 (l0 l1 l3 : Value) (l2 : Int32) (H : HS) : rn 179 12 [l0, l1, .int l2, l3] [] H = rn 179 13 [l0, l1, .int l2, l3] [.int l2] H := rn_nx rfl
theorem x179_13 (l0 l1 l2 l3 : Value) (s0 : Int32) (H : HS) : rn 179 13 [l0, l1, l2, l3] [.int s0] H = if s0 = 0 then rn 179 16 [l0, l1, l2, l3] [] H else rn 179 26 [l0, l1, l2, l3] [] H := (rn_ev ..).trans (ev_bin rfl)
theorem x179_16 (l1 l2 l3 : Value) (l0 : Nat) (H : HS) : rn 179 16 [.ref l0, l1, l2, l3] [] H = rn 179 17 [.ref l0, l1, l2, l3] [.ref l0] H := rn_nx rfl
theorem x179_17 (l0 l1 l2 l3 : Value) (s0 : Nat) (H : HS) : rn 179 17 [l0, l1, l2, l3] [.ref s0] H = gk 179 20 [l0, l1, l2, l3] [] H (gfd H 5 12 s0) := (rn_ev ..).trans (ev_gk rfl)
theorem x179_20 (l0 l1 l2 : Value) (l3 : Int32) (s0 : Nat) (H : HS) : rn 179 20 [l0, l1, l2, .int l3] [.ref s0] H = rn 179 21 [l0, l1, l2, .int l3] [.int l3, .ref s0] H := rn_nx rfl
theorem x179_21 (l0 l1 l2 l3 : Value) (s0 : Int32) (s1 : Nat) (H : HS) : rn 179 21 [l0, l1, l2, l3] [.int s0, .ref s1] H = gk 179 22 [l0, l1, l2, l3] [] H (ald H 100 s1 s0) := (rn_ev ..).trans (ev_gk rfl)
theorem x179_22 (l0 l2 l3 : Value) (l1 : Int32) (s0 : Int32) (H : HS) : rn 179 22 [l0, .int l1, l2, l3] [.int s0] H = rn 179 23 [l0, .int l1, l2, l3] [.int l1, .int s0] H := rn_nx rfl
theorem x179_23 (l0 l1 l2 l3 : Value) (s0 : Int32) (s1 : Int32) (H : HS) : rn 179 23 [l0, l1, l2, l3] [.int s0, .int s1] H = if s1 = s0 then rn 179 26 [l0, l1, l2, l3] [] H else rn 179 30 [l0, l1, l2, l3] [] H := (rn_ev ..).trans (ev_bin rfl)
theorem x179_26 (l0 l1 l2 l3 : Value) (H : HS) : rn 179 26 [l0, l1, l2, l3] [] H = rn 179 27 [l0, l1, l2, l3] [.int 1] H := rn_nx rfl
theorem x179_27 (l0 l1 l2 l3 : Value) (s0 : Int32) (H : HS) : rn 179 27 [l0, l1, l2, l3] [.int s0] H = rn 179 31 [l0, l1, l2, l3] [.int s0] H := rn_nx rfl
theorem x179_31 (l0 l1 l2 l3 : Value) (s0 : Int32) (H : HS) : rn 179 31 [l0, l1, l2, l3] [.int s0] H = rn 179 32 [l0, (kl l1), .int s0, l3] [] H := rn_nx rfl
theorem x179_32 (l0 l1 l2 : Value) (l3 : Int32) (H : HS) : rn 179 32 [l0, l1, l2, .int l3] [] H = rn 179 35 [l0, l1, (kl l2), .int (l3 + 1)] [] H := rn_nx rfl
theorem x179_35 (l0 l1 l2 l3 : Value) (H : HS) : rn 179 35 [l0, l1, l2, l3] [] H = rn 179 4 [l0, l1, l2, l3] [] H := rn_nx rfl
theorem x179_30 (l0 l1 l2 l3 : Value) (H : HS) : rn 179 30 [l0, l1, l2, l3] [] H = rn 179 31 [l0, l1, l2, l3] [.int 0] H := rn_nx rfl
theorem x179_38 (l0 l1 l3 : Value) (l2 : Int32) (H : HS) : rn 179 38 [l0, l1, .int l2, l3] [] H = rn 179 39 [l0, l1, .int l2, l3] [.int l2] H := rn_nx rfl
theorem x179_39 (l0 l1 l2 l3 : Value) (s0 : Int32) (H : HS) : rn 179 39 [l0, l1, l2, l3] [.int s0] H = if fitp 1 (.int s0) = true then some (.inl (some (.int s0)), H) else none := (rn_ev ..).trans (ev_ret rfl)
theorem c179 (a0 : Nat) (a1 : Int32) (H : HS) : rcal 179 [.ref a0, .int a1] H = rn 179 0 [.ref a0, .int a1, un, un] [] H := rfl
theorem x180_0 (l1 l2 : Value) (l0 : Nat) (H : HS) : rn 180 0 [.ref l0, l1, l2] [] H = rn 180 1 [.ref l0, l1, l2] [.ref l0] H := rn_nx rfl
theorem x180_1 (l0 l1 l2 : Value) (s0 : Nat) (H : HS) : rn 180 1 [l0, l1, l2] [.ref s0] H = gk 180 4 [l0, l1, l2] [] H (gfd H 5 0 s0) := (rn_ev ..).trans (ev_gk rfl)
theorem x180_4 (l0 l2 : Value) (l1 : Int32) (s0 : Nat) (H : HS) : rn 180 4 [l0, .int l1, l2] [.ref s0] H = rn 180 5 [l0, .int l1, l2] [.int l1, .ref s0] H := rn_nx rfl
theorem x180_5 (l0 l1 l2 : Value) (s0 : Int32) (s1 : Nat) (H : HS) : rn 180 5 [l0, l1, l2] [.int s0, .ref s1] H = bnd true 180 5 [l0, l1, l2] [.ref s1] (rcal 154 [.int s0] H) := rn_cal rfl
theorem x180_8 (l0 l1 l2 : Value) (s0 : Int32) (s1 : Nat) (H : HS) : rn 180 8 [l0, l1, l2] [.int s0, .ref s1] H = rn 180 9 [l0, l1, l2] [.int 4, .int s0, .ref s1] H := rn_nx rfl
theorem x180_9 (l0 l1 l2 : Value) (s0 : Int32) (s1 : Int32) (s2 : Nat) (H : HS) : rn 180 9 [l0, l1, l2] [.int s0, .int s1, .ref s2] H = rn 180 10 [l0, l1, l2] [.int (s1 + s0), .ref s2] H := rn_nx rfl
theorem x180_10 (l0 l1 l2 : Value) (s0 : Int32) (s1 : Nat) (H : HS) : rn 180 10 [l0, l1, l2] [.int s0, .ref s1] H = rn 180 11 [l0, l1, l2] [.int 1, .int s0, .ref s1] H := rn_nx rfl
theorem x180_11 (l0 l1 l2 : Value) (s0 : Int32) (s1 : Int32) (s2 : Nat) (H : HS) : rn 180 11 [l0, l1, l2] [.int s0, .int s1, .ref s2] H = pk 180 12 [l0, l1, l2] [] (ast H 100 s2 s1 (.int s0)) := (rn_ev ..).trans (ev_pk rfl)
theorem x180_12 (l1 l2 : Value) (l0 : Nat) (H : HS) : rn 180 12 [.ref l0, l1, l2] [] H = rn 180 13 [.ref l0, l1, l2] [.ref l0] H := rn_nx rfl
theorem x180_13 (l0 l1 l2 : Value) (s0 : Nat) (H : HS) : rn 180 13 [l0, l1, l2] [.ref s0] H = gk 180 16 [l0, l1, l2] [] H (gfd H 5 0 s0) := (rn_ev ..).trans (ev_gk rfl)
theorem x180_16 (l0 l2 : Value) (l1 : Int32) (s0 : Nat) (H : HS) : rn 180 16 [l0, .int l1, l2] [.ref s0] H = rn 180 17 [l0, .int l1, l2] [.int l1, .ref s0] H := rn_nx rfl
theorem x180_17 (l0 l1 l2 : Value) (s0 : Int32) (s1 : Nat) (H : HS) : rn 180 17 [l0, l1, l2] [.int s0, .ref s1] H = bnd true 180 17 [l0, l1, l2] [.ref s1] (rcal 154 [.int s0] H) := rn_cal rfl
theorem x180_20 (l0 l1 l2 : Value) (s0 : Int32) (s1 : Nat) (H : HS) : rn 180 20 [l0, l1, l2] [.int s0, .ref s1] H = rn 180 21 [l0, l1, l2] [.int 5, .int s0, .ref s1] H := rn_nx rfl
theorem x180_21 (l0 l1 l2 : Value) (s0 : Int32) (s1 : Int32) (s2 : Nat) (H : HS) : rn 180 21 [l0, l1, l2] [.int s0, .int s1, .ref s2] H = rn 180 22 [l0, l1, l2] [.int (s1 + s0), .ref s2] H := rn_nx rfl
theorem x180_22 (l0 l1 : Value) (l2 : Int32) (s0 : Int32) (s1 : Nat) (H : HS) : rn 180 22 [l0, l1, .int l2] [.int s0, .ref s1] H = rn 180 23 [l0, l1, .int l2] [.int l2, .int s0, .ref s1] H := rn_nx rfl
theorem x180_23 (l0 l1 l2 : Value) (s0 : Int32) (s1 : Int32) (s2 : Nat) (H : HS) : rn 180 23 [l0, l1, l2] [.int s0, .int s1, .ref s2] H = pk 180 24 [l0, l1, l2] [] (ast H 100 s2 s1 (.int s0)) := (rn_ev ..).trans (ev_pk rfl)
theorem x180_24 (l1 l2 : Value) (l0 : Nat) (H : HS) : rn 180 24 [.ref l0, l1, l2] [] H = rn 180 25 [.ref l0, l1, l2] [.ref l0] H := rn_nx rfl
theorem x180_25 (l0 l1 l2 : Value) (s0 : Nat) (H : HS) : rn 180 25 [l0, l1, l2] [.ref s0] H = gk 180 28 [l0, l1, l2] [] H (gfd H 5 0 s0) := (rn_ev ..).trans (ev_gk rfl)
theorem x180_28 (l0 l2 : Value) (l1 : Int32) (s0 : Nat) (H : HS) : rn 180 28 [l0, .int l1, l2] [.ref s0] H = rn 180 29 [l0, .int l1, l2] [.int l1, .ref s0] H := rn_nx rfl
theorem x180_29 (l0 l1 l2 : Value) (s0 : Int32) (s1 : Nat) (H : HS) : rn 180 29 [l0, l1, l2] [.int s0, .ref s1] H = bnd true 180 29 [l0, l1, l2] [.ref s1] (rcal 154 [.int s0] H) := rn_cal rfl
theorem x180_32 (l0 l1 l2 : Value) (s0 : Int32) (s1 : Nat) (H : HS) : rn 180 32 [l0, l1, l2] [.int s0, .ref s1] H = rn 180 34 [l0, l1, l2] [.int 6, .int s0, .ref s1] H := rn_nx rfl
theorem x180_34 (l0 l1 l2 : Value) (s0 : Int32) (s1 : Int32) (s2 : Nat) (H : HS) : rn 180 34 [l0, l1, l2] [.int s0, .int s1, .ref s2] H = rn 180 35 [l0, l1, l2] [.int (s1 + s0), .ref s2] H := rn_nx rfl
theorem x180_35 (l0 l1 l2 : Value) (s0 : Int32) (s1 : Nat) (H : HS) : rn 180 35 [l0, l1, l2] [.int s0, .ref s1] H = rn 180 36 [l0, l1, l2] [.int 0, .int s0, .ref s1] H := rn_nx rfl
theorem x180_36 (l0 l1 l2 : Value) (s0 : Int32) (s1 : Int32) (s2 : Nat) (H : HS) : rn 180 36 [l0, l1, l2] [.int s0, .int s1, .ref s2] H = pk 180 37 [l0, l1, l2] [] (ast H 100 s2 s1 (.int s0)) := (rn_ev ..).trans (ev_pk rfl)
theorem x180_37 (l1 l2 : Value) (l0 : Nat) (H : HS) : rn 180 37 [.ref l0, l1, l2] [] H = rn 180 38 [.ref l0, l1, l2] [.ref l0] H := rn_nx rfl
theorem x180_38 (l0 l1 l2 : Value) (s0 : Nat) (H : HS) : rn 180 38 [l0, l1, l2] [.ref s0] H = gk 180 41 [l0, l1, l2] [] H (gfd H 5 12 s0) := (rn_ev ..).trans (ev_gk rfl)
theorem x180_41 (l1 l2 : Value) (l0 : Nat) (s0 : Nat) (H : HS) : rn 180 41 [.ref l0, l1, l2] [.ref s0] H = rn 180 42 [.ref l0, l1, l2] [.ref l0, .ref s0] H := rn_nx rfl
theorem x180_42 (l0 l1 l2 : Value) (s0 : Nat) (s1 : Nat) (H : HS) : rn 180 42 [l0, l1, l2] [.ref s0, .ref s1] H = gk 180 45 [l0, l1, l2] [.ref s1] H (gfd H 5 13 s0) := (rn_ev ..).trans (ev_gk rfl)
theorem x180_45 (l1 l2 : Value) (l0 : Nat) (s0 : Int32) (s1 : Nat) (H : HS) : rn 180 45 [.ref l0, l1, l2] [.int s0, .ref s1] H = rn 180 46 [.ref l0, l1, l2] [.ref l0, .int s0, .ref s1] H := rn_nx rfl
theorem x180_46 (l0 l1 l2 : Value) (s0 : Nat) (s1 : Int32) (s2 : Nat) (H : HS) : rn 180 46 [l0, l1, l2] [.ref s0, .int s1, .ref s2] H = gk 180 49 [l0, l1, l2] [.int s1, .ref s2] H (gfd H 5 0 s0) := (rn_ev ..).trans (ev_gk rfl)
theorem x180_49 (l0 l2 : Value) (l1 : Int32) (s0 : Nat) (s1 : Int32) (s2 : Nat) (H : HS) : rn 180 49 [l0, .int l1, l2] [.ref s0, .int s1, .ref s2] H = rn 180 50 [l0, .int l1, l2] [.int l1, .ref s0, .int s1, .ref s2] H := rn_nx rfl
theorem x180_50 (l0 l1 l2 : Value) (s0 : Int32) (s1 : Nat) (s2 : Int32) (s3 : Nat) (H : HS) : rn 180 50 [l0, l1, l2] [.int s0, .ref s1, .int s2, .ref s3] H = bnd true 180 50 [l0, l1, l2] [.ref s1, .int s2, .ref s3] (rcal 154 [.int s0] H) := rn_cal rfl
theorem x180_53 (l0 l1 l2 : Value) (s0 : Int32) (s1 : Nat) (s2 : Int32) (s3 : Nat) (H : HS) : rn 180 53 [l0, l1, l2] [.int s0, .ref s1, .int s2, .ref s3] H = gk 180 54 [l0, l1, l2] [.int s2, .ref s3] H (ald H 100 s1 s0) := (rn_ev ..).trans (ev_gk rfl)
theorem x180_54 (l0 l1 l2 : Value) (s0 : Int32) (s1 : Int32) (s2 : Nat) (H : HS) : rn 180 54 [l0, l1, l2] [.int s0, .int s1, .ref s2] H = pk 180 55 [l0, l1, l2] [] (ast H 100 s2 s1 (.int s0)) := (rn_ev ..).trans (ev_pk rfl)
theorem x180_55 (l1 l2 : Value) (l0 : Nat) (H : HS) : rn 180 55 [.ref l0, l1, l2] [] H = rn 180 56 [.ref l0, l1, l2] [.ref l0] H := rn_nx rfl
theorem x180_56 (l0 l1 l2 : Value) (s0 : Nat) (H : HS) : rn 180 56 [l0, l1, l2] [.ref s0] H = rn 180 57 [l0, l1, l2] [.ref s0, .ref s0] H := rn_nx rfl
theorem x180_57 (l0 l1 l2 : Value) (s0 : Nat) (s1 : Nat) (H : HS) : rn 180 57 [l0, l1, l2] [.ref s0, .ref s1] H = gk 180 60 [l0, l1, l2] [.ref s1] H (gfd H 5 13 s0) := (rn_ev ..).trans (ev_gk rfl)
theorem x180_60 (l0 l1 l2 : Value) (s0 : Int32) (s1 : Nat) (H : HS) : rn 180 60 [l0, l1, l2] [.int s0, .ref s1] H = rn 180 61 [l0, l1, l2] [.int 1, .int s0, .ref s1] H := rn_nx rfl
theorem x180_61 (l0 l1 l2 : Value) (s0 : Int32) (s1 : Int32) (s2 : Nat) (H : HS) : rn 180 61 [l0, l1, l2] [.int s0, .int s1, .ref s2] H = rn 180 62 [l0, l1, l2] [.int (s1 + s0), .ref s2] H := rn_nx rfl
theorem x180_62 (l0 l1 l2 : Value) (s0 : Int32) (s1 : Nat) (H : HS) : rn 180 62 [l0, l1, l2] [.int s0, .ref s1] H = pk 180 65 [l0, l1, l2] [] (pfd H true 5 13 s1 (.int s0)) := (rn_ev ..).trans (ev_pk rfl)
theorem x180_65 (l0 l1 l2 : Value) (H : HS) : rn 180 65 [l0, l1, l2] [] H = some (.inl none, H) := rn_end rfl
theorem c180 (a0 : Nat) (a1 : Int32) (a2 : Int32) (H : HS) : rcal 180 [.ref a0, .int a1, .int a2] H = rn 180 0 [.ref a0, .int a1, .int a2] [] H := rfl
theorem x181_0 (l1 l2 : Value) (l0 : Nat) (H : HS) : rn 181 0 [.ref l0, l1, l2] [] H = rn 181 1 [.ref l0, l1, l2] [.ref l0] H := rn_nx rfl
theorem x181_1 (l0 l1 l2 : Value) (s0 : Nat) (H : HS) : rn 181 1 [l0, l1, l2] [.ref s0] H = gk 181 4 [l0, l1, l2] [] H (gfd H 5 0 s0) := (rn_ev ..).trans (ev_gk rfl)
theorem x181_4 (l0 l1 l2 : Value) (s0 : Nat) (H : HS) : rn 181 4 [l0, l1, l2] [.ref s0] H = rn 181 5 [l0, l1, l2] [.int 3, .ref s0] H := rn_nx rfl
theorem x181_5 (l0 l1 l2 : Value) (s0 : Int32) (s1 : Nat) (H : HS) : rn 181 5 [l0, l1, l2] [.int s0, .ref s1] H = gk 181 6 [l0, l1, l2] [] H (ald H 100 s1 s0) := (rn_ev ..).trans (ev_gk rfl)
theorem x181_6 (l1 l2 : Value) (l0 : Nat) (s0 : Int32) (H : HS) : rn 181 6 [.ref l0, l1, l2] [.int s0] H = rn 181 7 [.ref l0, l1, l2] [.ref l0, .int s0] H := rn_nx rfl
theorem x181_7 (l0 l2 : Value) (l1 : Int32) (s0 : Nat) (s1 : Int32) (H : HS) : rn 181 7 [l0, .int l1, l2] [.ref s0, .int s1] H = rn 181 8 [l0, .int l1, l2] [.int l1, .ref s0, .int s1] H := rn_nx rfl
theorem x181_8 (l0 l1 l2 : Value) (s0 : Int32) (s1 : Nat) (s2 : Int32) (H : HS) (h : recv H s1 5 = true) : rn 181 8 [l0, l1, l2] [.int s0, .ref s1, .int s2] H = bnd true 181 8 [l0, l1, l2] [.int s2] (rcal 165 [.ref s1, .int s0] H) := rn_cal (vcal h rfl)
theorem x181_11 (l0 l1 l2 : Value) (s0 : Int32) (s1 : Int32) (H : HS) : rn 181 11 [l0, l1, l2] [.int s0, .int s1] H = rn 181 12 [l0, l1, l2] [.int (s1 - s0)] H := rn_nx rfl
theorem x181_12 (l0 l1 l2 : Value) (s0 : Int32) (H : HS) : rn 181 12 [l0, l1, l2] [.int s0] H = rn 181 13 [l0, (kl l1), .int s0] [] H := rn_nx rfl
theorem x181_13 (l1 l2 : Value) (l0 : Nat) (H : HS) : rn 181 13 [.ref l0, l1, l2] [] H = rn 181 14 [.ref l0, l1, l2] [.ref l0] H := rn_nx rfl
theorem x181_14 (l0 l1 l2 : Value) (s0 : Nat) (H : HS) : rn 181 14 [l0, l1, l2] [.ref s0] H = gk 181 17 [l0, l1, l2] [] H (gfd H 5 0 s0) := (rn_ev ..).trans (ev_gk rfl)
theorem x181_17 (l0 l1 l2 : Value) (s0 : Nat) (H : HS) : rn 181 17 [l0, l1, l2] [.ref s0] H = rn 181 19 [l0, l1, l2] [.int 6, .ref s0] H := rn_nx rfl
theorem x181_19 (l1 l2 : Value) (l0 : Nat) (s0 : Int32) (s1 : Nat) (H : HS) : rn 181 19 [.ref l0, l1, l2] [.int s0, .ref s1] H = rn 181 20 [.ref l0, l1, l2] [.ref l0, .int s0, .ref s1] H := rn_nx rfl
theorem x181_20 (l0 l1 l2 : Value) (s0 : Nat) (s1 : Int32) (s2 : Nat) (H : HS) : rn 181 20 [l0, l1, l2] [.ref s0, .int s1, .ref s2] H = gk 181 23 [l0, l1, l2] [.int s1, .ref s2] H (gfd H 5 0 s0) := (rn_ev ..).trans (ev_gk rfl)
theorem x181_23 (l0 l1 l2 : Value) (s0 : Nat) (s1 : Int32) (s2 : Nat) (H : HS) : rn 181 23 [l0, l1, l2] [.ref s0, .int s1, .ref s2] H = rn 181 24 [l0, l1, l2] [.int 4, .ref s0, .int s1, .ref s2] H := rn_nx rfl
theorem x181_24 (l0 l1 l2 : Value) (s0 : Int32) (s1 : Nat) (s2 : Int32) (s3 : Nat) (H : HS) : rn 181 24 [l0, l1, l2] [.int s0, .ref s1, .int s2, .ref s3] H = gk 181 25 [l0, l1, l2] [.int s2, .ref s3] H (ald H 100 s1 s0) := (rn_ev ..).trans (ev_gk rfl)
theorem x181_25 (l0 l1 l2 : Value) (s0 : Int32) (s1 : Int32) (s2 : Nat) (H : HS) : rn 181 25 [l0, l1, l2] [.int s0, .int s1, .ref s2] H = if s0 = 0 then rn 181 28 [l0, l1, l2] [.int s1, .ref s2] H else rn 181 32 [l0, l1, l2] [.int s1, .ref s2] H := (rn_ev ..).trans (ev_bin rfl)
theorem x181_28 (l0 l1 : Value) (l2 : Int32) (s0 : Int32) (s1 : Nat) (H : HS) : rn 181 28 [l0, l1, .int l2] [.int s0, .ref s1] H = rn 181 29 [l0, l1, .int l2] [.int l2, .int s0, .ref s1] H := rn_nx rfl
theorem x181_29 (l0 l1 l2 : Value) (s0 : Int32) (s1 : Int32) (s2 : Nat) (H : HS) : rn 181 29 [l0, l1, l2] [.int s0, .int s1, .ref s2] H = rn 181 43 [l0, l1, l2] [.int s0, .int s1, .ref s2] H := rn_nx rfl
theorem x181_43 (l0 l1 l2 : Value) (s0 : Int32) (s1 : Int32) (s2 : Nat) (H : HS) : rn 181 43 [l0, l1, l2] [.int s0, .int s1, .ref s2] H = pk 181 44 [l0, l1, l2] [] (ast H 100 s2 s1 (.int s0)) := (rn_ev ..).trans (ev_pk rfl)
theorem x181_44 (l1 l2 : Value) (l0 : Nat) (H : HS) : rn 181 44 [.ref l0, l1, l2] [] H = rn 181 45 [.ref l0, l1, l2] [.ref l0] H := rn_nx rfl
theorem x181_45 (l0 l1 l2 : Value) (s0 : Nat) (H : HS) : rn 181 45 [l0, l1, l2] [.ref s0] H = gk 181 48 [l0, l1, l2] [] H (gfd H 5 0 s0) := (rn_ev ..).trans (ev_gk rfl)
theorem x181_48 (l0 l1 l2 : Value) (s0 : Nat) (H : HS) : rn 181 48 [l0, l1, l2] [.ref s0] H = rn 181 49 [l0, l1, l2] [.int 4, .ref s0] H := rn_nx rfl
theorem x181_49 (l0 l1 l2 : Value) (s0 : Int32) (s1 : Nat) (H : HS) : rn 181 49 [l0, l1, l2] [.int s0, .ref s1] H = rn 181 50 [l0, l1, l2] [.int s0, .ref s1, .int s0, .ref s1] H := rn_nx rfl
theorem x181_50 (l0 l1 l2 : Value) (s0 : Int32) (s1 : Nat) (s2 : Int32) (s3 : Nat) (H : HS) : rn 181 50 [l0, l1, l2] [.int s0, .ref s1, .int s2, .ref s3] H = gk 181 51 [l0, l1, l2] [.int s2, .ref s3] H (ald H 100 s1 s0) := (rn_ev ..).trans (ev_gk rfl)
theorem x181_51 (l0 l1 l2 : Value) (s0 : Int32) (s1 : Int32) (s2 : Nat) (H : HS) : rn 181 51 [l0, l1, l2] [.int s0, .int s1, .ref s2] H = rn 181 52 [l0, l1, l2] [.int 1, .int s0, .int s1, .ref s2] H := rn_nx rfl
theorem x181_52 (l0 l1 l2 : Value) (s0 : Int32) (s1 : Int32) (s2 : Int32) (s3 : Nat) (H : HS) : rn 181 52 [l0, l1, l2] [.int s0, .int s1, .int s2, .ref s3] H = rn 181 53 [l0, l1, l2] [.int (s1 + s0), .int s2, .ref s3] H := rn_nx rfl
theorem x181_53 (l0 l1 l2 : Value) (s0 : Int32) (s1 : Int32) (s2 : Nat) (H : HS) : rn 181 53 [l0, l1, l2] [.int s0, .int s1, .ref s2] H = pk 181 54 [l0, l1, l2] [] (ast H 100 s2 s1 (.int s0)) := (rn_ev ..).trans (ev_pk rfl)
theorem x181_54 (l1 l2 : Value) (l0 : Nat) (H : HS) : rn 181 54 [.ref l0, l1, l2] [] H = rn 181 55 [.ref l0, l1, l2] [.ref l0] H := rn_nx rfl
theorem x181_55 (l0 l1 l2 : Value) (s0 : Nat) (H : HS) : rn 181 55 [l0, l1, l2] [.ref s0] H = gk 181 58 [l0, l1, l2] [] H (gfd H 5 0 s0) := (rn_ev ..).trans (ev_gk rfl)
theorem x181_58 (l0 l1 l2 : Value) (s0 : Nat) (H : HS) : rn 181 58 [l0, l1, l2] [.ref s0] H = rn 181 60 [l0, l1, l2] [.int 7, .ref s0] H := rn_nx rfl
theorem x181_60 (l0 l1 l2 : Value) (s0 : Int32) (s1 : Nat) (H : HS) : rn 181 60 [l0, l1, l2] [.int s0, .ref s1] H = rn 181 61 [l0, l1, l2] [.int s0, .ref s1, .int s0, .ref s1] H := rn_nx rfl
theorem x181_61 (l0 l1 l2 : Value) (s0 : Int32) (s1 : Nat) (s2 : Int32) (s3 : Nat) (H : HS) : rn 181 61 [l0, l1, l2] [.int s0, .ref s1, .int s2, .ref s3] H = gk 181 62 [l0, l1, l2] [.int s2, .ref s3] H (ald H 100 s1 s0) := (rn_ev ..).trans (ev_gk rfl)
theorem x181_62 (l0 l1 : Value) (l2 : Int32) (s0 : Int32) (s1 : Int32) (s2 : Nat) (H : HS) : rn 181 62 [l0, l1, .int l2] [.int s0, .int s1, .ref s2] H = rn 181 63 [l0, l1, .int l2] [.int l2, .int s0, .int s1, .ref s2] H := rn_nx rfl
theorem x181_63 (l0 l1 l2 : Value) (s0 : Int32) (s1 : Int32) (s2 : Int32) (s3 : Nat) (H : HS) : rn 181 63 [l0, l1, l2] [.int s0, .int s1, .int s2, .ref s3] H = if s0 = 0 then rn 181 66 [l0, l1, l2] [.int s1, .int s2, .ref s3] H else rn 181 70 [l0, l1, l2] [.int s1, .int s2, .ref s3] H := (rn_ev ..).trans (ev_bin rfl)
theorem x181_66 (l0 l1 l2 : Value) (s0 : Int32) (s1 : Int32) (s2 : Nat) (H : HS) : rn 181 66 [l0, l1, l2] [.int s0, .int s1, .ref s2] H = rn 181 67 [l0, l1, l2] [.int 1, .int s0, .int s1, .ref s2] H := rn_nx rfl
theorem x181_67 (l0 l1 l2 : Value) (s0 : Int32) (s1 : Int32) (s2 : Int32) (s3 : Nat) (H : HS) : rn 181 67 [l0, l1, l2] [.int s0, .int s1, .int s2, .ref s3] H = rn 181 71 [l0, l1, l2] [.int s0, .int s1, .int s2, .ref s3] H := rn_nx rfl
theorem x181_71 (l0 l1 l2 : Value) (s0 : Int32) (s1 : Int32) (s2 : Int32) (s3 : Nat) (H : HS) : rn 181 71 [l0, l1, l2] [.int s0, .int s1, .int s2, .ref s3] H = rn 181 72 [l0, l1, l2] [.int (s1 + s0), .int s2, .ref s3] H := rn_nx rfl
theorem x181_72 (l0 l1 l2 : Value) (s0 : Int32) (s1 : Int32) (s2 : Nat) (H : HS) : rn 181 72 [l0, l1, l2] [.int s0, .int s1, .ref s2] H = pk 181 73 [l0, l1, l2] [] (ast H 100 s2 s1 (.int s0)) := (rn_ev ..).trans (ev_pk rfl)
theorem x181_73 (l1 l2 : Value) (l0 : Nat) (H : HS) : rn 181 73 [.ref l0, l1, l2] [] H = rn 181 74 [.ref l0, l1, l2] [.ref l0] H := rn_nx rfl
theorem x181_74 (l0 l1 l2 : Value) (s0 : Nat) (H : HS) : rn 181 74 [l0, l1, l2] [.ref s0] H = gk 181 77 [l0, l1, l2] [] H (gfd H 5 0 s0) := (rn_ev ..).trans (ev_gk rfl)
theorem x181_77 (l0 l1 l2 : Value) (s0 : Nat) (H : HS) : rn 181 77 [l0, l1, l2] [.ref s0] H = rn 181 79 [l0, l1, l2] [.int 8, .ref s0] H := rn_nx rfl
theorem x181_79 (l0 l1 l2 : Value) (s0 : Int32) (s1 : Nat) (H : HS) : rn 181 79 [l0, l1, l2] [.int s0, .ref s1] H = rn 181 80 [l0, l1, l2] [.int s0, .ref s1, .int s0, .ref s1] H := rn_nx rfl
theorem x181_80 (l0 l1 l2 : Value) (s0 : Int32) (s1 : Nat) (s2 : Int32) (s3 : Nat) (H : HS) : rn 181 80 [l0, l1, l2] [.int s0, .ref s1, .int s2, .ref s3] H = gk 181 81 [l0, l1, l2] [.int s2, .ref s3] H (ald H 100 s1 s0) := (rn_ev ..).trans (ev_gk rfl)
theorem x181_81 (l0 l1 : Value) (l2 : Int32) (s0 : Int32) (s1 : Int32) (s2 : Nat) (H : HS) : rn 181 81 [l0, l1, .int l2] [.int s0, .int s1, .ref s2] H = rn 181 82 [l0, l1, .int l2] [.int l2, .int s0, .int s1, .ref s2] H := rn_nx rfl
theorem x181_82 (l0 l1 l2 : Value) (s0 : Int32) (s1 : Int32) (s2 : Int32) (s3 : Nat) (H : HS) : rn 181 82 [l0, l1, l2] [.int s0, .int s1, .int s2, .ref s3] H = rn 181 83 [l0, l1, l2] [.int (s1 + s0), .int s2, .ref s3] H := rn_nx rfl
theorem x181_83 (l0 l1 l2 : Value) (s0 : Int32) (s1 : Int32) (s2 : Nat) (H : HS) : rn 181 83 [l0, l1, l2] [.int s0, .int s1, .ref s2] H = pk 181 84 [l0, l1, l2] [] (ast H 100 s2 s1 (.int s0)) := (rn_ev ..).trans (ev_pk rfl)
theorem x181_84 (l1 l2 : Value) (l0 : Nat) (H : HS) : rn 181 84 [.ref l0, l1, l2] [] H = rn 181 85 [.ref l0, l1, l2] [.ref l0] H := rn_nx rfl
theorem x181_85 (l0 l1 l2 : Value) (s0 : Nat) (H : HS) : rn 181 85 [l0, l1, l2] [.ref s0] H = gk 181 88 [l0, l1, l2] [] H (gfd H 5 0 s0) := (rn_ev ..).trans (ev_gk rfl)
theorem x181_88 (l0 l1 l2 : Value) (s0 : Nat) (H : HS) : rn 181 88 [l0, l1, l2] [.ref s0] H = rn 181 89 [l0, l1, l2] [.int 5, .ref s0] H := rn_nx rfl
theorem x181_89 (l1 l2 : Value) (l0 : Nat) (s0 : Int32) (s1 : Nat) (H : HS) : rn 181 89 [.ref l0, l1, l2] [.int s0, .ref s1] H = rn 181 90 [.ref l0, l1, l2] [.ref l0, .int s0, .ref s1] H := rn_nx rfl
theorem x181_90 (l0 l1 l2 : Value) (s0 : Nat) (s1 : Int32) (s2 : Nat) (H : HS) : rn 181 90 [l0, l1, l2] [.ref s0, .int s1, .ref s2] H = gk 181 93 [l0, l1, l2] [.int s1, .ref s2] H (gfd H 5 0 s0) := (rn_ev ..).trans (ev_gk rfl)
theorem x181_93 (l0 l2 : Value) (l1 : Int32) (s0 : Nat) (s1 : Int32) (s2 : Nat) (H : HS) : rn 181 93 [l0, .int l1, l2] [.ref s0, .int s1, .ref s2] H = rn 181 94 [l0, .int l1, l2] [.int l1, .ref s0, .int s1, .ref s2] H := rn_nx rfl
theorem x181_94 (l0 l1 l2 : Value) (s0 : Int32) (s1 : Nat) (s2 : Int32) (s3 : Nat) (H : HS) : rn 181 94 [l0, l1, l2] [.int s0, .ref s1, .int s2, .ref s3] H = bnd true 181 94 [l0, l1, l2] [.ref s1, .int s2, .ref s3] (rcal 154 [.int s0] H) := rn_cal rfl
theorem x181_97 (l0 l1 l2 : Value) (s0 : Int32) (s1 : Nat) (s2 : Int32) (s3 : Nat) (H : HS) : rn 181 97 [l0, l1, l2] [.int s0, .ref s1, .int s2, .ref s3] H = gk 181 98 [l0, l1, l2] [.int s2, .ref s3] H (ald H 100 s1 s0) := (rn_ev ..).trans (ev_gk rfl)
theorem x181_98 (l0 l1 l2 : Value) (s0 : Int32) (s1 : Int32) (s2 : Nat) (H : HS) : rn 181 98 [l0, l1, l2] [.int s0, .int s1, .ref s2] H = pk 181 99 [l0, l1, l2] [] (ast H 100 s2 s1 (.int s0)) := (rn_ev ..).trans (ev_pk rfl)
theorem x181_99 (l1 l2 : Value) (l0 : Nat) (H : HS) : rn 181 99 [.ref l0, l1, l2] [] H = rn 181 100 [.ref l0, l1, l2] [.ref l0] H := rn_nx rfl
theorem x181_100 (l0 l2 : Value) (l1 : Int32) (s0 : Nat) (H : HS) : rn 181 100 [l0, .int l1, l2] [.ref s0] H = rn 181 101 [l0, .int l1, l2] [.int l1, .ref s0] H := rn_nx rfl
theorem x181_101 (l0 l1 l2 : Value) (s0 : Int32) (s1 : Nat) (H : HS) (h : recv H s1 5 = true) : rn 181 101 [l0, l1, l2] [.int s0, .ref s1] H = bnd true 181 101 [l0, l1, l2] [] (rcal 166 [.ref s1, .int s0] H) := rn_cal (vcal h rfl)
theorem x181_104 (l0 l1 l2 : Value) (H : HS) : rn 181 104 [l0, l1, l2] [] H = some (.inl none, H) := rn_end rfl
theorem x181_70 (l0 l1 l2 : Value) (s0 : Int32) (s1 : Int32) (s2 : Nat) (H : HS) : rn 181 70 [l0, l1, l2] [.int s0, .int s1, .ref s2] H = rn 181 71 [l0, l1, l2] [.int 0, .int s0, .int s1, .ref s2] H := rn_nx rfl
theorem x181_32 (l1 l2 : Value) (l0 : Nat) (s0 : Int32) (s1 : Nat) (H : HS) : rn 181 32 [.ref l0, l1, l2] [.int s0, .ref s1] H = rn 181 33 [.ref l0, l1, l2] [.ref l0, .int s0, .ref s1] H := rn_nx rfl
theorem x181_33 (l0 l1 l2 : Value) (s0 : Nat) (s1 : Int32) (s2 : Nat) (H : HS) : rn 181 33 [l0, l1, l2] [.ref s0, .int s1, .ref s2] H = gk 181 36 [l0, l1, l2] [.int s1, .ref s2] H (gfd H 5 0 s0) := (rn_ev ..).trans (ev_gk rfl)
theorem x181_36 (l0 l1 l2 : Value) (s0 : Nat) (s1 : Int32) (s2 : Nat) (H : HS) : rn 181 36 [l0, l1, l2] [.ref s0, .int s1, .ref s2] H = rn 181 38 [l0, l1, l2] [.int 6, .ref s0, .int s1, .ref s2] H := rn_nx rfl
theorem x181_38 (l0 l1 l2 : Value) (s0 : Int32) (s1 : Nat) (s2 : Int32) (s3 : Nat) (H : HS) : rn 181 38 [l0, l1, l2] [.int s0, .ref s1, .int s2, .ref s3] H = gk 181 39 [l0, l1, l2] [.int s2, .ref s3] H (ald H 100 s1 s0) := (rn_ev ..).trans (ev_gk rfl)
theorem x181_39 (l0 l1 : Value) (l2 : Int32) (s0 : Int32) (s1 : Int32) (s2 : Nat) (H : HS) : rn 181 39 [l0, l1, .int l2] [.int s0, .int s1, .ref s2] H = rn 181 40 [l0, l1, .int l2] [.int l2, .int s0, .int s1, .ref s2] H := rn_nx rfl
theorem x181_40 (l0 l1 l2 : Value) (s0 : Int32) (s1 : Int32) (s2 : Int32) (s3 : Nat) (H : HS) : rn 181 40 [l0, l1, l2] [.int s0, .int s1, .int s2, .ref s3] H = rn 181 43 [l0, l1, l2] [.int (if s1 < s0 then s0 else s1), .int s2, .ref s3] H := rn_nx rfl
theorem c181 (a0 : Nat) (a1 : Int32) (H : HS) : rcal 181 [.ref a0, .int a1] H = rn 181 0 [.ref a0, .int a1, un] [] H := rfl
theorem x182_0 (l0 l1 l2 l3 : Value) (H : HS) : rn 182 0 [l0, l1, l2, l3] [] H = rn 182 1 [l0, l1, l2, l3] [.int 0] H := rn_nx rfl
theorem x182_1 (l0 l1 l2 l3 : Value) (s0 : Int32) (H : HS) : rn 182 1 [l0, l1, l2, l3] [.int s0] H = rn 182 2 [(kl l0), .int s0, l2, l3] [] H := rn_nx rfl
theorem x182_2 (l0 l2 l3 : Value) (l1 : Int32) (H : HS) : rn 182 2 [l0, .int l1, l2, l3] [] H = rn 182 3 [l0, .int l1, l2, l3] [.int l1] H := rn_nx rfl
theorem x182_3 (l1 l2 l3 : Value) (l0 : Nat) (s0 : Int32) (H : HS) : rn 182 3 [.ref l0, l1, l2, l3] [.int s0] H = rn 182 4 [.ref l0, l1, l2, l3] [.ref l0, .int s0] H := rn_nx rfl
theorem x182_4 (l0 l1 l2 l3 : Value) (s0 : Nat) (s1 : Int32) (H : HS) : rn 182 4 [l0, l1, l2, l3] [.ref s0, .int s1] H = gk 182 7 [l0, l1, l2, l3] [.int s1] H (gfd H 5 0 s0) := (rn_ev ..).trans (ev_gk rfl)
theorem x182_7 (l0 l1 l2 l3 : Value) (s0 : Nat) (s1 : Int32) (H : HS) : rn 182 7 [l0, l1, l2, l3] [.ref s0, .int s1] H = rn 182 8 [l0, l1, l2, l3] [.int 0, .ref s0, .int s1] H := rn_nx rfl
theorem x182_8 (l0 l1 l2 l3 : Value) (s0 : Int32) (s1 : Nat) (s2 : Int32) (H : HS) : rn 182 8 [l0, l1, l2, l3] [.int s0, .ref s1, .int s2] H = gk 182 9 [l0, l1, l2, l3] [.int s2] H (ald H 100 s1 s0) := (rn_ev ..).trans (ev_gk rfl)
theorem x182_9 (l0 l1 l2 l3 : Value) (s0 : Int32) (s1 : Int32) (H : HS) : rn 182 9 [l0, l1, l2, l3] [.int s0, .int s1] H = rn 182 10 [l0, l1, l2, l3] [.int 1, .int s0, .int s1] H := rn_nx rfl
theorem x182_10 (l0 l1 l2 l3 : Value) (s0 : Int32) (s1 : Int32) (s2 : Int32) (H : HS) : rn 182 10 [l0, l1, l2, l3] [.int s0, .int s1, .int s2] H = rn 182 11 [l0, l1, l2, l3] [.int (s1 - s0), .int s2] H := rn_nx rfl
theorem x182_11 (l0 l1 l2 l3 : Value) (s0 : Int32) (s1 : Int32) (H : HS) : rn 182 11 [l0, l1, l2, l3] [.int s0, .int s1] H = if s1 < s0 then rn 182 14 [l0, l1, l2, l3] [] H else rn 182 97 [l0, l1, l2, l3] [] H := (rn_ev ..).trans (ev_bin rfl)
theorem x182_14 (l1 l2 l3 : Value) (l0 : Nat) (H : HS) : rn 182 14 [.ref l0, l1, l2, l3] [] H = rn 182 15 [.ref l0, l1, l2, l3] [.ref l0] H := rn_nx rfl
theorem x182_15 (l0 l2 l3 : Value) (l1 : Int32) (s0 : Nat) (H : HS) : rn 182 15 [l0, .int l1, l2, l3] [.ref s0] H = rn 182 16 [l0, .int l1, l2, l3] [.int l1, .ref s0] H := rn_nx rfl
theorem x182_16 (l0 l1 l2 l3 : Value) (s0 : Int32) (s1 : Nat) (H : HS) (h : recv H s1 5 = true) : rn 182 16 [l0, l1, l2, l3] [.int s0, .ref s1] H = bnd true 182 16 [l0, l1, l2, l3] [] (rcal 160 [.ref s1, .int s0] H) := rn_cal (vcal h rfl)
theorem x182_19 (l0 l1 l2 l3 : Value) (s0 : Int32) (H : HS) : rn 182 19 [l0, l1, l2, l3] [.int s0] H = rn 182 20 [l0, (kl l1), .int s0, l3] [] H := rn_nx rfl
theorem x182_20 (l0 l1 l3 : Value) (l2 : Int32) (H : HS) : rn 182 20 [l0, l1, .int l2, l3] [] H = rn 182 21 [l0, l1, .int l2, l3] [.int l2] H := rn_nx rfl
theorem x182_21 (l0 l1 l2 l3 : Value) (s0 : Int32) (H : HS) : rn 182 21 [l0, l1, l2, l3] [.int s0] H = rn 182 22 [l0, l1, l2, l3] [.int (-1), .int s0] H := rn_nx rfl
theorem x182_22 (l0 l1 l2 l3 : Value) (s0 : Int32) (s1 : Int32) (H : HS) : rn 182 22 [l0, l1, l2, l3] [.int s0, .int s1] H = if s1 = s0 then rn 182 91 [l0, l1, l2, l3] [] H else rn 182 25 [l0, l1, l2, l3] [] H := (rn_ev ..).trans (ev_bif rfl)
theorem x182_25 (l1 l2 l3 : Value) (l0 : Nat) (H : HS) : rn 182 25 [.ref l0, l1, l2, l3] [] H = rn 182 26 [.ref l0, l1, l2, l3] [.ref l0] H := rn_nx rfl
theorem x182_26 (l0 l1 l2 l3 : Value) (s0 : Nat) (H : HS) : rn 182 26 [l0, l1, l2, l3] [.ref s0] H = gk 182 29 [l0, l1, l2, l3] [] H (gfd H 5 0 s0) := (rn_ev ..).trans (ev_gk rfl)
theorem x182_29 (l0 l1 l3 : Value) (l2 : Int32) (s0 : Nat) (H : HS) : rn 182 29 [l0, l1, .int l2, l3] [.ref s0] H = rn 182 30 [l0, l1, .int l2, l3] [.int l2, .ref s0] H := rn_nx rfl
theorem x182_30 (l0 l1 l2 l3 : Value) (s0 : Int32) (s1 : Nat) (H : HS) : rn 182 30 [l0, l1, l2, l3] [.int s0, .ref s1] H = bnd true 182 30 [l0, l1, l2, l3] [.ref s1] (rcal 154 [.int s0] H) := rn_cal rfl
theorem x182_33 (l0 l1 l2 l3 : Value) (s0 : Int32) (s1 : Nat) (H : HS) : rn 182 33 [l0, l1, l2, l3] [.int s0, .ref s1] H = rn 182 35 [l0, l1, l2, l3] [.int 6, .int s0, .ref s1] H := rn_nx rfl
theorem x182_35 (l0 l1 l2 l3 : Value) (s0 : Int32) (s1 : Int32) (s2 : Nat) (H : HS) : rn 182 35 [l0, l1, l2, l3] [.int s0, .int s1, .ref s2] H = rn 182 36 [l0, l1, l2, l3] [.int (s1 + s0), .ref s2] H := rn_nx rfl
theorem x182_36 (l0 l1 l2 l3 : Value) (s0 : Int32) (s1 : Nat) (H : HS) : rn 182 36 [l0, l1, l2, l3] [.int s0, .ref s1] H = rn 182 37 [l0, l1, l2, l3] [.int s0, .ref s1, .int s0, .ref s1] H := rn_nx rfl
theorem x182_37 (l0 l1 l2 l3 : Value) (s0 : Int32) (s1 : Nat) (s2 : Int32) (s3 : Nat) (H : HS) : rn 182 37 [l0, l1, l2, l3] [.int s0, .ref s1, .int s2, .ref s3] H = gk 182 38 [l0, l1, l2, l3] [.int s2, .ref s3] H (ald H 100 s1 s0) := (rn_ev ..).trans (ev_gk rfl)
theorem x182_38 (l0 l1 l2 l3 : Value) (s0 : Int32) (s1 : Int32) (s2 : Nat) (H : HS) : rn 182 38 [l0, l1, l2, l3] [.int s0, .int s1, .ref s2] H = rn 182 39 [l0, l1, l2, l3] [.int 1, .int s0, .int s1, .ref s2] H := rn_nx rfl
theorem x182_39 (l0 l1 l2 l3 : Value) (s0 : Int32) (s1 : Int32) (s2 : Int32) (s3 : Nat) (H : HS) : rn 182 39 [l0, l1, l2, l3] [.int s0, .int s1, .int s2, .ref s3] H = rn 182 40 [l0, l1, l2, l3] [.int (s1 - s0), .int s2, .ref s3] H := rn_nx rfl
theorem x182_40 (l0 l1 l2 l3 : Value) (s0 : Int32) (s1 : Int32) (s2 : Nat) (H : HS) : rn 182 40 [l0, l1, l2, l3] [.int s0, .int s1, .ref s2] H = pk 182 41 [l0, l1, l2, l3] [] (ast H 100 s2 s1 (.int s0)) := (rn_ev ..).trans (ev_pk rfl)
theorem x182_41 (l1 l2 l3 : Value) (l0 : Nat) (H : HS) : rn 182 41 [.ref l0, l1, l2, l3] [] H = rn 182 42 [.ref l0, l1, l2, l3] [.ref l0] H := rn_nx rfl
theorem x182_42 (l0 l1 l2 l3 : Value) (s0 : Nat) (H : HS) : rn 182 42 [l0, l1, l2, l3] [.ref s0] H = gk 182 45 [l0, l1, l2, l3] [] H (gfd H 5 0 s0) := (rn_ev ..).trans (ev_gk rfl)
theorem x182_45 (l0 l1 l3 : Value) (l2 : Int32) (s0 : Nat) (H : HS) : rn 182 45 [l0, l1, .int l2, l3] [.ref s0] H = rn 182 46 [l0, l1, .int l2, l3] [.int l2, .ref s0] H := rn_nx rfl
theorem x182_46 (l0 l1 l2 l3 : Value) (s0 : Int32) (s1 : Nat) (H : HS) : rn 182 46 [l0, l1, l2, l3] [.int s0, .ref s1] H = bnd true 182 46 [l0, l1, l2, l3] [.ref s1] (rcal 154 [.int s0] H) := rn_cal rfl
theorem x182_49 (l0 l1 l2 l3 : Value) (s0 : Int32) (s1 : Nat) (H : HS) : rn 182 49 [l0, l1, l2, l3] [.int s0, .ref s1] H = rn 182 51 [l0, l1, l2, l3] [.int 6, .int s0, .ref s1] H := rn_nx rfl
theorem x182_51 (l0 l1 l2 l3 : Value) (s0 : Int32) (s1 : Int32) (s2 : Nat) (H : HS) : rn 182 51 [l0, l1, l2, l3] [.int s0, .int s1, .ref s2] H = rn 182 52 [l0, l1, l2, l3] [.int (s1 + s0), .ref s2] H := rn_nx rfl
theorem x182_52 (l0 l1 l2 l3 : Value) (s0 : Int32) (s1 : Nat) (H : HS) : rn 182 52 [l0, l1, l2, l3] [.int s0, .ref s1] H = gk 182 53 [l0, l1, l2, l3] [] H (ald H 100 s1 s0) := (rn_ev ..).trans (ev_gk rfl)
theorem x182_53 (l0 l1 l2 l3 : Value) (s0 : Int32) (H : HS) : rn 182 53 [l0, l1, l2, l3] [.int s0] H = if s0 = 0 then rn 182 56 [l0, l1, l2, l3] [] H else rn 182 91 [l0, l1, l2, l3] [] H := (rn_ev ..).trans (ev_bin rfl)
theorem x182_56 (l1 l2 l3 : Value) (l0 : Nat) (H : HS) : rn 182 56 [.ref l0, l1, l2, l3] [] H = rn 182 57 [.ref l0, l1, l2, l3] [.ref l0] H := rn_nx rfl
theorem x182_57 (l0 l1 l3 : Value) (l2 : Int32) (s0 : Nat) (H : HS) : rn 182 57 [l0, l1, .int l2, l3] [.ref s0] H = rn 182 58 [l0, l1, .int l2, l3] [.int l2, .ref s0] H := rn_nx rfl
theorem x182_58 (l0 l1 l2 l3 : Value) (s0 : Int32) (s1 : Nat) (H : HS) (h : recv H s1 5 = true) : rn 182 58 [l0, l1, l2, l3] [.int s0, .ref s1] H = bnd true 182 58 [l0, l1, l2, l3] [] (rcal 159 [.ref s1, .int s0] H) := rn_cal (vcal h rfl)
theorem x182_61 (l0 l1 l2 l3 : Value) (s0 : Int32) (H : HS) : rn 182 61 [l0, l1, l2, l3] [.int s0] H = rn 182 62 [l0, l1, (kl l2), .int s0] [] H := rn_nx rfl
theorem x182_62 (l0 l1 l2 : Value) (l3 : Int32) (H : HS) : rn 182 62 [l0, l1, l2, .int l3] [] H = rn 182 63 [l0, l1, l2, .int l3] [.int l3] H := rn_nx rfl
theorem x182_63 (l1 l2 l3 : Value) (l0 : Nat) (s0 : Int32) (H : HS) : rn 182 63 [.ref l0, l1, l2, l3] [.int s0] H = rn 182 64 [.ref l0, l1, l2, l3] [.ref l0, .int s0] H := rn_nx rfl
theorem x182_64 (l0 l1 l2 l3 : Value) (s0 : Nat) (s1 : Int32) (H : HS) : rn 182 64 [l0, l1, l2, l3] [.ref s0, .int s1] H = gk 182 67 [l0, l1, l2, l3] [.int s1] H (gfd H 5 0 s0) := (rn_ev ..).trans (ev_gk rfl)
theorem x182_67 (l0 l1 l3 : Value) (l2 : Int32) (s0 : Nat) (s1 : Int32) (H : HS) : rn 182 67 [l0, l1, .int l2, l3] [.ref s0, .int s1] H = rn 182 68 [l0, l1, .int l2, l3] [.int l2, .ref s0, .int s1] H := rn_nx rfl
theorem x182_68 (l0 l1 l2 l3 : Value) (s0 : Int32) (s1 : Nat) (s2 : Int32) (H : HS) : rn 182 68 [l0, l1, l2, l3] [.int s0, .ref s1, .int s2] H = bnd true 182 68 [l0, l1, l2, l3] [.ref s1, .int s2] (rcal 154 [.int s0] H) := rn_cal rfl
theorem x182_71 (l0 l1 l2 l3 : Value) (s0 : Int32) (s1 : Nat) (s2 : Int32) (H : HS) : rn 182 71 [l0, l1, l2, l3] [.int s0, .ref s1, .int s2] H = rn 182 72 [l0, l1, l2, l3] [.int 2, .int s0, .ref s1, .int s2] H := rn_nx rfl
theorem x182_72 (l0 l1 l2 l3 : Value) (s0 : Int32) (s1 : Int32) (s2 : Nat) (s3 : Int32) (H : HS) : rn 182 72 [l0, l1, l2, l3] [.int s0, .int s1, .ref s2, .int s3] H = rn 182 73 [l0, l1, l2, l3] [.int (s1 + s0), .ref s2, .int s3] H := rn_nx rfl
theorem x182_73 (l0 l1 l2 l3 : Value) (s0 : Int32) (s1 : Nat) (s2 : Int32) (H : HS) : rn 182 73 [l0, l1, l2, l3] [.int s0, .ref s1, .int s2] H = gk 182 74 [l0, l1, l2, l3] [.int s2] H (ald H 100 s1 s0) := (rn_ev ..).trans (ev_gk rfl)
theorem x182_74 (l0 l1 l2 l3 : Value) (s0 : Int32) (s1 : Int32) (H : HS) : rn 182 74 [l0, l1, l2, l3] [.int s0, .int s1] H = if s1 = s0 then rn 182 77 [l0, l1, l2, l3] [] H else rn 182 85 [l0, l1, l2, l3] [] H := (rn_ev ..).trans (ev_bin rfl)
theorem x182_77 (l1 l2 l3 : Value) (l0 : Nat) (H : HS) : rn 182 77 [.ref l0, l1, l2, l3] [] H = rn 182 78 [.ref l0, l1, l2, l3] [.ref l0] H := rn_nx rfl
theorem x182_78 (l0 l1 l3 : Value) (l2 : Int32) (s0 : Nat) (H : HS) : rn 182 78 [l0, l1, .int l2, l3] [.ref s0] H = rn 182 79 [l0, l1, .int l2, l3] [.int l2, .ref s0] H := rn_nx rfl
theorem x182_79 (l0 l1 l2 l3 : Value) (s0 : Int32) (s1 : Nat) (H : HS) (h : recv H s1 5 = true) : rn 182 79 [l0, l1, l2, l3] [.int s0, .ref s1] H = bnd true 182 79 [l0, l1, l2, l3] [] (rcal 181 [.ref s1, .int s0] H) := rn_cal (vcal h rfl)
theorem x182_82 (l0 l1 l2 l3 : Value) (H : HS) : rn 182 82 [l0, l1, l2, l3] [] H = rn 182 91 [l0, l1, l2, l3] [] H := rn_nx rfl
theorem x182_91 (l0 l2 l3 : Value) (l1 : Int32) (H : HS) : rn 182 91 [l0, .int l1, l2, l3] [] H = rn 182 94 [(kl l0), .int (l1 + 1), l2, l3] [] H := rn_nx rfl
theorem x182_94 (l0 l1 l2 l3 : Value) (H : HS) : rn 182 94 [l0, l1, l2, l3] [] H = rn 182 2 [l0, l1, l2, l3] [] H := rn_nx rfl
theorem x182_85 (l1 l2 l3 : Value) (l0 : Nat) (H : HS) : rn 182 85 [.ref l0, l1, l2, l3] [] H = rn 182 86 [.ref l0, l1, l2, l3] [.ref l0] H := rn_nx rfl
theorem x182_86 (l0 l1 l3 : Value) (l2 : Int32) (s0 : Nat) (H : HS) : rn 182 86 [l0, l1, .int l2, l3] [.ref s0] H = rn 182 87 [l0, l1, .int l2, l3] [.int l2, .ref s0] H := rn_nx rfl
theorem x182_87 (l0 l1 l2 : Value) (l3 : Int32) (s0 : Int32) (s1 : Nat) (H : HS) : rn 182 87 [l0, l1, l2, .int l3] [.int s0, .ref s1] H = rn 182 88 [l0, l1, l2, .int l3] [.int l3, .int s0, .ref s1] H := rn_nx rfl
theorem x182_88 (l0 l1 l2 l3 : Value) (s0 : Int32) (s1 : Int32) (s2 : Nat) (H : HS) (h : recv H s2 5 = true) : rn 182 88 [l0, l1, l2, l3] [.int s0, .int s1, .ref s2] H = bnd true 182 88 [l0, l1, l2, l3] [] (rcal 180 [.ref s2, .int s1, .int s0] H) := rn_cal (vcal h rfl)
theorem x182_97 (l0 l1 l2 l3 : Value) (H : HS) : rn 182 97 [l0, l1, l2, l3] [] H = some (.inl none, H) := rn_end rfl
theorem c182 (a0 : Nat) (H : HS) : rcal 182 [.ref a0] H = rn 182 0 [.ref a0, un, un, un] [] H := rfl
theorem x183_0 (l0 l1 l2 : Value) (H : HS) : rn 183 0 [l0, l1, l2] [] H = rn 183 1 [l0, l1, l2] [.int 0] H := rn_nx rfl
theorem x183_1 (l0 l1 l2 : Value) (s0 : Int32) (H : HS) : rn 183 1 [l0, l1, l2] [.int s0] H = rn 183 2 [(kl l0), .int s0, l2] [] H := rn_nx rfl
theorem x183_2 (l0 l2 : Value) (l1 : Int32) (H : HS) : rn 183 2 [l0, .int l1, l2] [] H = rn 183 3 [l0, .int l1, l2] [.int l1] H := rn_nx rfl
theorem x183_3 (l1 l2 : Value) (l0 : Nat) (s0 : Int32) (H : HS) : rn 183 3 [.ref l0, l1, l2] [.int s0] H = rn 183 4 [.ref l0, l1, l2] [.ref l0, .int s0] H := rn_nx rfl
theorem x183_4 (l0 l1 l2 : Value) (s0 : Nat) (s1 : Int32) (H : HS) : rn 183 4 [l0, l1, l2] [.ref s0, .int s1] H = gk 183 7 [l0, l1, l2] [.int s1] H (gfd H 5 0 s0) := (rn_ev ..).trans (ev_gk rfl)
theorem x183_7 (l0 l1 l2 : Value) (s0 : Nat) (s1 : Int32) (H : HS) : rn 183 7 [l0, l1, l2] [.ref s0, .int s1] H = rn 183 8 [l0, l1, l2] [.int 1, .ref s0, .int s1] H := rn_nx rfl
theorem x183_8 (l0 l1 l2 : Value) (s0 : Int32) (s1 : Nat) (s2 : Int32) (H : HS) : rn 183 8 [l0, l1, l2] [.int s0, .ref s1, .int s2] H = gk 183 9 [l0, l1, l2] [.int s2] H (ald H 100 s1 s0) := (rn_ev ..).trans (ev_gk rfl)
theorem x183_9 (l0 l1 l2 : Value) (s0 : Int32) (s1 : Int32) (H : HS) : rn 183 9 [l0, l1, l2] [.int s0, .int s1] H = if s1 < s0 then rn 183 12 [l0, l1, l2] [] H else rn 183 96 [l0, l1, l2] [] H := (rn_ev ..).trans (ev_bin rfl)
theorem x183_12 (l1 l2 : Value) (l0 : Nat) (H : HS) : rn 183 12 [.ref l0, l1, l2] [] H = rn 183 13 [.ref l0, l1, l2] [.ref l0] H := rn_nx rfl
theorem x183_13 (l0 l1 l2 : Value) (s0 : Nat) (H : HS) : rn 183 13 [l0, l1, l2] [.ref s0] H = gk 183 16 [l0, l1, l2] [] H (gfd H 5 0 s0) := (rn_ev ..).trans (ev_gk rfl)
theorem x183_16 (l0 l2 : Value) (l1 : Int32) (s0 : Nat) (H : HS) : rn 183 16 [l0, .int l1, l2] [.ref s0] H = rn 183 17 [l0, .int l1, l2] [.int l1, .ref s0] H := rn_nx rfl
theorem x183_17 (l0 l1 l2 : Value) (s0 : Int32) (s1 : Nat) (H : HS) : rn 183 17 [l0, l1, l2] [.int s0, .ref s1] H = bnd true 183 17 [l0, l1, l2] [.ref s1] (rcal 154 [.int s0] H) := rn_cal rfl
theorem x183_20 (l0 l1 l2 : Value) (s0 : Int32) (s1 : Nat) (H : HS) : rn 183 20 [l0, l1, l2] [.int s0, .ref s1] H = rn 183 21 [l0, l1, l2] [.int 4, .int s0, .ref s1] H := rn_nx rfl
theorem x183_21 (l0 l1 l2 : Value) (s0 : Int32) (s1 : Int32) (s2 : Nat) (H : HS) : rn 183 21 [l0, l1, l2] [.int s0, .int s1, .ref s2] H = rn 183 22 [l0, l1, l2] [.int (s1 + s0), .ref s2] H := rn_nx rfl
theorem x183_22 (l0 l1 l2 : Value) (s0 : Int32) (s1 : Nat) (H : HS) : rn 183 22 [l0, l1, l2] [.int s0, .ref s1] H = gk 183 23 [l0, l1, l2] [] H (ald H 100 s1 s0) := (rn_ev ..).trans (ev_gk rfl)
theorem x183_23 (l0 l1 l2 : Value) (s0 : Int32) (H : HS) : rn 183 23 [l0, l1, l2] [.int s0] H = if s0 = 0 then rn 183 26 [l0, l1, l2] [] H else rn 183 50 [l0, l1, l2] [] H := (rn_ev ..).trans (ev_bin rfl)
theorem x183_26 (l1 l2 : Value) (l0 : Nat) (H : HS) : rn 183 26 [.ref l0, l1, l2] [] H = rn 183 27 [.ref l0, l1, l2] [.ref l0] H := rn_nx rfl
theorem x183_27 (l0 l1 l2 : Value) (s0 : Nat) (H : HS) : rn 183 27 [l0, l1, l2] [.ref s0] H = gk 183 30 [l0, l1, l2] [] H (gfd H 5 0 s0) := (rn_ev ..).trans (ev_gk rfl)
theorem x183_30 (l0 l2 : Value) (l1 : Int32) (s0 : Nat) (H : HS) : rn 183 30 [l0, .int l1, l2] [.ref s0] H = rn 183 31 [l0, .int l1, l2] [.int l1, .ref s0] H := rn_nx rfl
theorem x183_31 (l0 l1 l2 : Value) (s0 : Int32) (s1 : Nat) (H : HS) : rn 183 31 [l0, l1, l2] [.int s0, .ref s1] H = bnd true 183 31 [l0, l1, l2] [.ref s1] (rcal 154 [.int s0] H) := rn_cal rfl
theorem x183_34 (l0 l1 l2 : Value) (s0 : Int32) (s1 : Nat) (H : HS) : rn 183 34 [l0, l1, l2] [.int s0, .ref s1] H = rn 183 35 [l0, l1, l2] [.int 3, .int s0, .ref s1] H := rn_nx rfl
theorem x183_35 (l0 l1 l2 : Value) (s0 : Int32) (s1 : Int32) (s2 : Nat) (H : HS) : rn 183 35 [l0, l1, l2] [.int s0, .int s1, .ref s2] H = rn 183 36 [l0, l1, l2] [.int (s1 + s0), .ref s2] H := rn_nx rfl
theorem x183_36 (l0 l1 l2 : Value) (s0 : Int32) (s1 : Nat) (H : HS) : rn 183 36 [l0, l1, l2] [.int s0, .ref s1] H = gk 183 37 [l0, l1, l2] [] H (ald H 100 s1 s0) := (rn_ev ..).trans (ev_gk rfl)
theorem x183_37 (l1 l2 : Value) (l0 : Nat) (s0 : Int32) (H : HS) : rn 183 37 [.ref l0, l1, l2] [.int s0] H = rn 183 38 [.ref l0, l1, l2] [.ref l0, .int s0] H := rn_nx rfl
theorem x183_38 (l0 l1 l2 : Value) (s0 : Nat) (s1 : Int32) (H : HS) : rn 183 38 [l0, l1, l2] [.ref s0, .int s1] H = gk 183 41 [l0, l1, l2] [.int s1] H (gfd H 5 0 s0) := (rn_ev ..).trans (ev_gk rfl)
theorem x183_41 (l0 l1 l2 : Value) (s0 : Nat) (s1 : Int32) (H : HS) : rn 183 41 [l0, l1, l2] [.ref s0, .int s1] H = rn 183 42 [l0, l1, l2] [.int 3, .ref s0, .int s1] H := rn_nx rfl
theorem x183_42 (l0 l1 l2 : Value) (s0 : Int32) (s1 : Nat) (s2 : Int32) (H : HS) : rn 183 42 [l0, l1, l2] [.int s0, .ref s1, .int s2] H = gk 183 43 [l0, l1, l2] [.int s2] H (ald H 100 s1 s0) := (rn_ev ..).trans (ev_gk rfl)
theorem x183_43 (l0 l1 l2 : Value) (s0 : Int32) (s1 : Int32) (H : HS) : rn 183 43 [l0, l1, l2] [.int s0, .int s1] H = if s0 < s1 then rn 183 50 [l0, l1, l2] [] H else rn 183 46 [l0, l1, l2] [] H := (rn_ev ..).trans (ev_bif rfl)
theorem x183_46 (l0 l1 l2 : Value) (H : HS) : rn 183 46 [l0, l1, l2] [] H = rn 183 47 [l0, l1, l2] [.int 1] H := rn_nx rfl
theorem x183_47 (l0 l1 l2 : Value) (s0 : Int32) (H : HS) : rn 183 47 [l0, l1, l2] [.int s0] H = rn 183 51 [l0, l1, l2] [.int s0] H := rn_nx rfl
theorem x183_51 (l0 l1 l2 : Value) (s0 : Int32) (H : HS) : rn 183 51 [l0, l1, l2] [.int s0] H = rn 183 52 [l0, (kl l1), .int s0] [] H := rn_nx rfl
theorem x183_52 (l0 l1 : Value) (l2 : Int32) (H : HS) : rn 183 52 [l0, l1, .int l2] [] H = rn 183 53 [l0, l1, .int l2] [.int l2] H := rn_nx rfl
theorem x183_53 (l0 l1 l2 : Value) (s0 : Int32) (H : HS) : rn 183 53 [l0, l1, l2] [.int s0] H = if s0 = 0 then rn 183 90 [l0, l1, l2] [] H else rn 183 56 [l0, l1, l2] [] H := (rn_ev ..).trans (ev_bif rfl)
theorem x183_56 (l1 l2 : Value) (l0 : Nat) (H : HS) : rn 183 56 [.ref l0, l1, l2] [] H = rn 183 57 [.ref l0, l1, l2] [.ref l0] H := rn_nx rfl
theorem x183_57 (l1 l2 : Value) (l0 : Nat) (s0 : Nat) (H : HS) : rn 183 57 [.ref l0, l1, l2] [.ref s0] H = rn 183 58 [.ref l0, l1, l2] [.ref l0, .ref s0] H := rn_nx rfl
theorem x183_58 (l0 l1 l2 : Value) (s0 : Nat) (s1 : Nat) (H : HS) : rn 183 58 [l0, l1, l2] [.ref s0, .ref s1] H = gk 183 61 [l0, l1, l2] [.ref s1] H (gfd H 5 0 s0) := (rn_ev ..).trans (ev_gk rfl)
theorem x183_61 (l0 l2 : Value) (l1 : Int32) (s0 : Nat) (s1 : Nat) (H : HS) : rn 183 61 [l0, .int l1, l2] [.ref s0, .ref s1] H = rn 183 62 [l0, .int l1, l2] [.int l1, .ref s0, .ref s1] H := rn_nx rfl
theorem x183_62 (l0 l1 l2 : Value) (s0 : Int32) (s1 : Nat) (s2 : Nat) (H : HS) : rn 183 62 [l0, l1, l2] [.int s0, .ref s1, .ref s2] H = bnd true 183 62 [l0, l1, l2] [.ref s1, .ref s2] (rcal 154 [.int s0] H) := rn_cal rfl
theorem x183_65 (l0 l1 l2 : Value) (s0 : Int32) (s1 : Nat) (s2 : Nat) (H : HS) : rn 183 65 [l0, l1, l2] [.int s0, .ref s1, .ref s2] H = rn 183 66 [l0, l1, l2] [.int 1, .int s0, .ref s1, .ref s2] H := rn_nx rfl
theorem x183_66 (l0 l1 l2 : Value) (s0 : Int32) (s1 : Int32) (s2 : Nat) (s3 : Nat) (H : HS) : rn 183 66 [l0, l1, l2] [.int s0, .int s1, .ref s2, .ref s3] H = rn 183 67 [l0, l1, l2] [.int (s1 + s0), .ref s2, .ref s3] H := rn_nx rfl
theorem x183_67 (l0 l1 l2 : Value) (s0 : Int32) (s1 : Nat) (s2 : Nat) (H : HS) : rn 183 67 [l0, l1, l2] [.int s0, .ref s1, .ref s2] H = gk 183 68 [l0, l1, l2] [.ref s2] H (ald H 100 s1 s0) := (rn_ev ..).trans (ev_gk rfl)
theorem x183_68 (l0 l1 l2 : Value) (s0 : Int32) (s1 : Nat) (H : HS) (h : recv H s1 5 = true) : rn 183 68 [l0, l1, l2] [.int s0, .ref s1] H = bnd true 183 68 [l0, l1, l2] [] (rcal 163 [.ref s1, .int s0] H) := rn_cal (vcal h rfl)
theorem x183_71 (l0 l1 l2 : Value) (s0 : Int32) (H : HS) : rn 183 71 [l0, l1, l2] [.int s0] H = if 0 < s0 then rn 183 74 [l0, l1, l2] [] H else rn 183 90 [l0, l1, l2] [] H := (rn_ev ..).trans (ev_bin rfl)
theorem x183_74 (l1 l2 : Value) (l0 : Nat) (H : HS) : rn 183 74 [.ref l0, l1, l2] [] H = rn 183 75 [.ref l0, l1, l2] [.ref l0] H := rn_nx rfl
theorem x183_75 (l0 l2 : Value) (l1 : Int32) (s0 : Nat) (H : HS) : rn 183 75 [l0, .int l1, l2] [.ref s0] H = rn 183 76 [l0, .int l1, l2] [.int l1, .ref s0] H := rn_nx rfl
theorem x183_76 (l1 l2 : Value) (l0 : Nat) (s0 : Int32) (s1 : Nat) (H : HS) : rn 183 76 [.ref l0, l1, l2] [.int s0, .ref s1] H = rn 183 77 [.ref l0, l1, l2] [.ref l0, .int s0, .ref s1] H := rn_nx rfl
theorem x183_77 (l0 l1 l2 : Value) (s0 : Nat) (s1 : Int32) (s2 : Nat) (H : HS) : rn 183 77 [l0, l1, l2] [.ref s0, .int s1, .ref s2] H = gk 183 80 [l0, l1, l2] [.int s1, .ref s2] H (gfd H 5 0 s0) := (rn_ev ..).trans (ev_gk rfl)
theorem x183_80 (l0 l2 : Value) (l1 : Int32) (s0 : Nat) (s1 : Int32) (s2 : Nat) (H : HS) : rn 183 80 [l0, .int l1, l2] [.ref s0, .int s1, .ref s2] H = rn 183 81 [l0, .int l1, l2] [.int l1, .ref s0, .int s1, .ref s2] H := rn_nx rfl
theorem x183_81 (l0 l1 l2 : Value) (s0 : Int32) (s1 : Nat) (s2 : Int32) (s3 : Nat) (H : HS) : rn 183 81 [l0, l1, l2] [.int s0, .ref s1, .int s2, .ref s3] H = bnd true 183 81 [l0, l1, l2] [.ref s1, .int s2, .ref s3] (rcal 154 [.int s0] H) := rn_cal rfl
theorem x183_84 (l0 l1 l2 : Value) (s0 : Int32) (s1 : Nat) (s2 : Int32) (s3 : Nat) (H : HS) : rn 183 84 [l0, l1, l2] [.int s0, .ref s1, .int s2, .ref s3] H = rn 183 85 [l0, l1, l2] [.int 1, .int s0, .ref s1, .int s2, .ref s3] H := rn_nx rfl
theorem x183_85 (l0 l1 l2 : Value) (s0 : Int32) (s1 : Int32) (s2 : Nat) (s3 : Int32) (s4 : Nat) (H : HS) : rn 183 85 [l0, l1, l2] [.int s0, .int s1, .ref s2, .int s3, .ref s4] H = rn 183 86 [l0, l1, l2] [.int (s1 + s0), .ref s2, .int s3, .ref s4] H := rn_nx rfl
theorem x183_86 (l0 l1 l2 : Value) (s0 : Int32) (s1 : Nat) (s2 : Int32) (s3 : Nat) (H : HS) : rn 183 86 [l0, l1, l2] [.int s0, .ref s1, .int s2, .ref s3] H = gk 183 87 [l0, l1, l2] [.int s2, .ref s3] H (ald H 100 s1 s0) := (rn_ev ..).trans (ev_gk rfl)
theorem x183_87 (l0 l1 l2 : Value) (s0 : Int32) (s1 : Int32) (s2 : Nat) (H : HS) (h : recv H s2 5 = true) : rn 183 87 [l0, l1, l2] [.int s0, .int s1, .ref s2] H = bnd true 183 87 [l0, l1, l2] [] (rcal 180 [.ref s2, .int s1, .int s0] H) := rn_cal (vcal h rfl)
theorem x183_90 (l0 l2 : Value) (l1 : Int32) (H : HS) : rn 183 90 [l0, .int l1, l2] [] H = rn 183 93 [(kl l0), .int (l1 + 1), l2] [] H := rn_nx rfl
theorem x183_93 (l0 l1 l2 : Value) (H : HS) : rn 183 93 [l0, l1, l2] [] H = rn 183 2 [l0, l1, l2] [] H := rn_nx rfl
theorem x183_50 (l0 l1 l2 : Value) (H : HS) : rn 183 50 [l0, l1, l2] [] H = rn 183 51 [l0, l1, l2] [.int 0] H := rn_nx rfl
theorem x183_96 (l0 l1 l2 : Value) (H : HS) : rn 183 96 [l0, l1, l2] [] H = some (.inl none, H) := rn_end rfl
theorem c183 (a0 : Nat) (H : HS) : rcal 183 [.ref a0] H = rn 183 0 [.ref a0, un, un] [] H := rfl
theorem x184_0 (l0 l2 l3 l4 : Value) (l1 : Int32) (H : HS) : rn 184 0 [l0, .int l1, l2, l3, l4] [] H = rn 184 1 [l0, .int l1, l2, l3, l4] [.int l1] H := rn_nx rfl
theorem x184_1 (l0 l1 l2 l3 l4 : Value) (s0 : Int32) (H : HS) : rn 184 1 [l0, l1, l2, l3, l4] [.int s0] H = bnd true 184 1 [l0, l1, l2, l3, l4] [] (rcal 154 [.int s0] H) := rn_cal rfl
theorem x184_4 (l0 l1 l2 l3 l4 : Value) (s0 : Int32) (H : HS) : rn 184 4 [l0, l1, l2, l3, l4] [.int s0] H = rn 184 5 [l0, (kl l1), .int s0, l3, l4] [] H := rn_nx rfl
theorem x184_5 (l1 l2 l3 l4 : Value) (l0 : Nat) (H : HS) : rn 184 5 [.ref l0, l1, l2, l3, l4] [] H = rn 184 6 [.ref l0, l1, l2, l3, l4] [.ref l0] H := rn_nx rfl
theorem x184_6 (l0 l2 l3 l4 : Value) (l1 : Int32) (s0 : Nat) (H : HS) : rn 184 6 [l0, .int l1, l2, l3, l4] [.ref s0] H = rn 184 7 [l0, .int l1, l2, l3, l4] [.int l1, .ref s0] H := rn_nx rfl
theorem x184_7 (l0 l1 l2 l3 l4 : Value) (s0 : Int32) (s1 : Nat) (H : HS) (h : recv H s1 5 = true) : rn 184 7 [l0, l1, l2, l3, l4] [.int s0, .ref s1] H = bnd true 184 7 [l0, l1, l2, l3, l4] [] (rcal 158 [.ref s1, .int s0] H) := rn_cal (vcal h rfl)
theorem x184_10 (l0 l1 l2 l3 l4 : Value) (s0 : Int32) (H : HS) : rn 184 10 [l0, l1, l2, l3, l4] [.int s0] H = if 0 < s0 then rn 184 13 [l0, l1, l2, l3, l4] [] H else rn 184 24 [l0, l1, l2, l3, l4] [] H := (rn_ev ..).trans (ev_bin rfl)
theorem x184_13 (l1 l2 l3 l4 : Value) (l0 : Nat) (H : HS) : rn 184 13 [.ref l0, l1, l2, l3, l4] [] H = rn 184 14 [.ref l0, l1, l2, l3, l4] [.ref l0] H := rn_nx rfl
theorem x184_14 (l0 l1 l2 l3 l4 : Value) (s0 : Nat) (H : HS) : rn 184 14 [l0, l1, l2, l3, l4] [.ref s0] H = gk 184 17 [l0, l1, l2, l3, l4] [] H (gfd H 5 0 s0) := (rn_ev ..).trans (ev_gk rfl)
theorem x184_17 (l0 l1 l3 l4 : Value) (l2 : Int32) (s0 : Nat) (H : HS) : rn 184 17 [l0, l1, .int l2, l3, l4] [.ref s0] H = rn 184 18 [l0, l1, .int l2, l3, l4] [.int l2, .ref s0] H := rn_nx rfl
theorem x184_18 (l0 l1 l2 l3 l4 : Value) (s0 : Int32) (s1 : Nat) (H : HS) : rn 184 18 [l0, l1, l2, l3, l4] [.int s0, .ref s1] H = rn 184 19 [l0, l1, l2, l3, l4] [.int 5, .int s0, .ref s1] H := rn_nx rfl
theorem x184_19 (l0 l1 l2 l3 l4 : Value) (s0 : Int32) (s1 : Int32) (s2 : Nat) (H : HS) : rn 184 19 [l0, l1, l2, l3, l4] [.int s0, .int s1, .ref s2] H = rn 184 20 [l0, l1, l2, l3, l4] [.int (s1 + s0), .ref s2] H := rn_nx rfl
theorem x184_20 (l0 l1 l2 l3 l4 : Value) (s0 : Int32) (s1 : Nat) (H : HS) : rn 184 20 [l0, l1, l2, l3, l4] [.int s0, .ref s1] H = gk 184 21 [l0, l1, l2, l3, l4] [] H (ald H 100 s1 s0) := (rn_ev ..).trans (ev_gk rfl)
theorem x184_21 (l0 l1 l2 l3 l4 : Value) (s0 : Int32) (H : HS) : rn 184 21 [l0, l1, l2, l3, l4] [.int s0] H = rn 184 34 [l0, l1, l2, l3, l4] [.int s0] H := rn_nx rfl
theorem x184_34 (l0 l1 l2 l3 l4 : Value) (s0 : Int32) (H : HS) : rn 184 34 [l0, l1, l2, l3, l4] [.int s0] H = rn 184 35 [l0, l1, (kl l2), .int s0, l4] [] H := rn_nx rfl
theorem x184_35 (l1 l2 l3 l4 : Value) (l0 : Nat) (H : HS) : rn 184 35 [.ref l0, l1, l2, l3, l4] [] H = rn 184 36 [.ref l0, l1, l2, l3, l4] [.ref l0] H := rn_nx rfl
theorem x184_36 (l0 l1 l2 l3 l4 : Value) (s0 : Nat) (H : HS) : rn 184 36 [l0, l1, l2, l3, l4] [.ref s0] H = gk 184 39 [l0, l1, l2, l3, l4] [] H (gfd H 5 0 s0) := (rn_ev ..).trans (ev_gk rfl)
theorem x184_39 (l0 l1 l3 l4 : Value) (l2 : Int32) (s0 : Nat) (H : HS) : rn 184 39 [l0, l1, .int l2, l3, l4] [.ref s0] H = rn 184 40 [l0, l1, .int l2, l3, l4] [.int l2, .ref s0] H := rn_nx rfl
theorem x184_40 (l0 l1 l2 l3 l4 : Value) (s0 : Int32) (s1 : Nat) (H : HS) : rn 184 40 [l0, l1, l2, l3, l4] [.int s0, .ref s1] H = rn 184 41 [l0, l1, l2, l3, l4] [.int 5, .int s0, .ref s1] H := rn_nx rfl
theorem x184_41 (l0 l1 l2 l3 l4 : Value) (s0 : Int32) (s1 : Int32) (s2 : Nat) (H : HS) : rn 184 41 [l0, l1, l2, l3, l4] [.int s0, .int s1, .ref s2] H = rn 184 42 [l0, l1, l2, l3, l4] [.int (s1 + s0), .ref s2] H := rn_nx rfl
theorem x184_42 (l0 l1 l2 l3 l4 : Value) (s0 : Int32) (s1 : Nat) (H : HS) : rn 184 42 [l0, l1, l2, l3, l4] [.int s0, .ref s1] H = gk 184 43 [l0, l1, l2, l3, l4] [] H (ald H 100 s1 s0) := (rn_ev ..).trans (ev_gk rfl)
theorem x184_43 (l1 l2 l3 l4 : Value) (l0 : Nat) (s0 : Int32) (H : HS) : rn 184 43 [.ref l0, l1, l2, l3, l4] [.int s0] H = rn 184 44 [.ref l0, l1, l2, l3, l4] [.ref l0, .int s0] H := rn_nx rfl
theorem x184_44 (l0 l2 l3 l4 : Value) (l1 : Int32) (s0 : Nat) (s1 : Int32) (H : HS) : rn 184 44 [l0, .int l1, l2, l3, l4] [.ref s0, .int s1] H = rn 184 45 [l0, .int l1, l2, l3, l4] [.int l1, .ref s0, .int s1] H := rn_nx rfl
theorem x184_45 (l0 l1 l2 l3 l4 : Value) (s0 : Int32) (s1 : Nat) (s2 : Int32) (H : HS) (h : recv H s1 5 = true) : rn 184 45 [l0, l1, l2, l3, l4] [.int s0, .ref s1, .int s2] H = bnd true 184 45 [l0, l1, l2, l3, l4] [.int s2] (rcal 158 [.ref s1, .int s0] H) := rn_cal (vcal h rfl)
theorem x184_48 (l0 l1 l2 l3 l4 : Value) (s0 : Int32) (s1 : Int32) (H : HS) : rn 184 48 [l0, l1, l2, l3, l4] [.int s0, .int s1] H = rn 184 49 [l0, l1, l2, l3, l4] [.int (s1 + s0)] H := rn_nx rfl
theorem x184_49 (l0 l1 l2 l3 l4 : Value) (s0 : Int32) (H : HS) : rn 184 49 [l0, l1, l2, l3, l4] [.int s0] H = rn 184 51 [l0, l1, l2, (kl l3), .int s0] [] H := rn_nx rfl
theorem x184_51 (l1 l2 l3 l4 : Value) (l0 : Nat) (H : HS) : rn 184 51 [.ref l0, l1, l2, l3, l4] [] H = rn 184 52 [.ref l0, l1, l2, l3, l4] [.ref l0] H := rn_nx rfl
theorem x184_52 (l0 l1 l2 l4 : Value) (l3 : Int32) (s0 : Nat) (H : HS) : rn 184 52 [l0, l1, l2, .int l3, l4] [.ref s0] H = rn 184 53 [l0, l1, l2, .int l3, l4] [.int l3, .ref s0] H := rn_nx rfl
theorem x184_53 (l0 l1 l2 l3 l4 : Value) (s0 : Int32) (s1 : Nat) (H : HS) (h : recv H s1 5 = true) : rn 184 53 [l0, l1, l2, l3, l4] [.int s0, .ref s1] H = bnd true 184 53 [l0, l1, l2, l3, l4] [] (rcal 160 [.ref s1, .int s0] H) := rn_cal (vcal h rfl)
theorem x184_56 (l0 l1 l2 l3 l4 : Value) (s0 : Int32) (H : HS) : rn 184 56 [l0, l1, l2, l3, l4] [.int s0] H = rn 184 57 [l0, l1, l2, l3, l4] [.int (-1), .int s0] H := rn_nx rfl
theorem x184_57 (l0 l1 l2 l3 l4 : Value) (s0 : Int32) (s1 : Int32) (H : HS) : rn 184 57 [l0, l1, l2, l3, l4] [.int s0, .int s1] H = if s1 = s0 then rn 184 60 [l0, l1, l2, l3, l4] [] H else rn 184 121 [l0, l1, l2, l3, l4] [] H := (rn_ev ..).trans (ev_bin rfl)
theorem x184_60 (l0 l1 l2 l3 : Value) (l4 : Int32) (H : HS) : rn 184 60 [l0, l1, l2, l3, .int l4] [] H = rn 184 62 [l0, l1, l2, l3, .int l4] [.int l4] H := rn_nx rfl
theorem x184_62 (l1 l2 l3 l4 : Value) (l0 : Nat) (s0 : Int32) (H : HS) : rn 184 62 [.ref l0, l1, l2, l3, l4] [.int s0] H = rn 184 63 [.ref l0, l1, l2, l3, l4] [.ref l0, .int s0] H := rn_nx rfl
theorem x184_63 (l0 l1 l2 l3 l4 : Value) (s0 : Nat) (s1 : Int32) (H : HS) : rn 184 63 [l0, l1, l2, l3, l4] [.ref s0, .int s1] H = gk 184 66 [l0, l1, l2, l3, l4] [.int s1] H (gfd H 5 0 s0) := (rn_ev ..).trans (ev_gk rfl)
theorem x184_66 (l0 l1 l3 l4 : Value) (l2 : Int32) (s0 : Nat) (s1 : Int32) (H : HS) : rn 184 66 [l0, l1, .int l2, l3, l4] [.ref s0, .int s1] H = rn 184 67 [l0, l1, .int l2, l3, l4] [.int l2, .ref s0, .int s1] H := rn_nx rfl
theorem x184_67 (l0 l1 l2 l3 l4 : Value) (s0 : Int32) (s1 : Nat) (s2 : Int32) (H : HS) : rn 184 67 [l0, l1, l2, l3, l4] [.int s0, .ref s1, .int s2] H = rn 184 68 [l0, l1, l2, l3, l4] [.int 2, .int s0, .ref s1, .int s2] H := rn_nx rfl
theorem x184_68 (l0 l1 l2 l3 l4 : Value) (s0 : Int32) (s1 : Int32) (s2 : Nat) (s3 : Int32) (H : HS) : rn 184 68 [l0, l1, l2, l3, l4] [.int s0, .int s1, .ref s2, .int s3] H = rn 184 69 [l0, l1, l2, l3, l4] [.int (s1 + s0), .ref s2, .int s3] H := rn_nx rfl
theorem x184_69 (l0 l1 l2 l3 l4 : Value) (s0 : Int32) (s1 : Nat) (s2 : Int32) (H : HS) : rn 184 69 [l0, l1, l2, l3, l4] [.int s0, .ref s1, .int s2] H = gk 184 70 [l0, l1, l2, l3, l4] [.int s2] H (ald H 100 s1 s0) := (rn_ev ..).trans (ev_gk rfl)
theorem x184_70 (l0 l1 l2 l3 l4 : Value) (s0 : Int32) (s1 : Int32) (H : HS) : rn 184 70 [l0, l1, l2, l3, l4] [.int s0, .int s1] H = if s1 = s0 then rn 184 82 [l0, l1, l2, l3, l4] [] H else rn 184 73 [l0, l1, l2, l3, l4] [] H := (rn_ev ..).trans (ev_bif rfl)
theorem x184_73 (l1 l2 l3 l4 : Value) (l0 : Nat) (H : HS) : rn 184 73 [.ref l0, l1, l2, l3, l4] [] H = rn 184 74 [.ref l0, l1, l2, l3, l4] [.ref l0] H := rn_nx rfl
theorem x184_74 (l0 l1 l2 l3 : Value) (l4 : Int32) (s0 : Nat) (H : HS) : rn 184 74 [l0, l1, l2, l3, .int l4] [.ref s0] H = rn 184 76 [l0, l1, l2, l3, .int l4] [.int l4, .ref s0] H := rn_nx rfl
theorem x184_76 (l0 l1 l2 l3 l4 : Value) (s0 : Int32) (s1 : Nat) (H : HS) (h : recv H s1 5 = true) : rn 184 76 [l0, l1, l2, l3, l4] [.int s0, .ref s1] H = bnd true 184 76 [l0, l1, l2, l3, l4] [] (rcal 163 [.ref s1, .int s0] H) := rn_cal (vcal h rfl)
theorem x184_79 (l0 l1 l2 l3 l4 : Value) (s0 : Int32) (H : HS) : rn 184 79 [l0, l1, l2, l3, l4] [.int s0] H = if 0 < s0 then rn 184 82 [l0, l1, l2, l3, l4] [] H else rn 184 121 [l0, l1, l2, l3, l4] [] H := (rn_ev ..).trans (ev_bin rfl)
theorem x184_82 (l1 l2 l3 l4 : Value) (l0 : Nat) (H : HS) : rn 184 82 [.ref l0, l1, l2, l3, l4] [] H = rn 184 83 [.ref l0, l1, l2, l3, l4] [.ref l0] H := rn_nx rfl
theorem x184_83 (l0 l1 l2 l3 l4 : Value) (s0 : Nat) (H : HS) : rn 184 83 [l0, l1, l2, l3, l4] [.ref s0] H = gk 184 86 [l0, l1, l2, l3, l4] [] H (gfd H 5 0 s0) := (rn_ev ..).trans (ev_gk rfl)
theorem x184_86 (l0 l1 l3 l4 : Value) (l2 : Int32) (s0 : Nat) (H : HS) : rn 184 86 [l0, l1, .int l2, l3, l4] [.ref s0] H = rn 184 87 [l0, l1, .int l2, l3, l4] [.int l2, .ref s0] H := rn_nx rfl
theorem x184_87 (l0 l1 l2 l3 l4 : Value) (s0 : Int32) (s1 : Nat) (H : HS) : rn 184 87 [l0, l1, l2, l3, l4] [.int s0, .ref s1] H = rn 184 88 [l0, l1, l2, l3, l4] [.int 4, .int s0, .ref s1] H := rn_nx rfl
theorem x184_88 (l0 l1 l2 l3 l4 : Value) (s0 : Int32) (s1 : Int32) (s2 : Nat) (H : HS) : rn 184 88 [l0, l1, l2, l3, l4] [.int s0, .int s1, .ref s2] H = rn 184 89 [l0, l1, l2, l3, l4] [.int (s1 + s0), .ref s2] H := rn_nx rfl
theorem x184_89 (l0 l1 l2 l3 l4 : Value) (s0 : Int32) (s1 : Nat) (H : HS) : rn 184 89 [l0, l1, l2, l3, l4] [.int s0, .ref s1] H = rn 184 90 [l0, l1, l2, l3, l4] [.int 2, .int s0, .ref s1] H := rn_nx rfl
theorem x184_90 (l0 l1 l2 l3 l4 : Value) (s0 : Int32) (s1 : Int32) (s2 : Nat) (H : HS) : rn 184 90 [l0, l1, l2, l3, l4] [.int s0, .int s1, .ref s2] H = pk 184 91 [l0, l1, l2, l3, l4] [] (ast H 100 s2 s1 (.int s0)) := (rn_ev ..).trans (ev_pk rfl)
theorem x184_91 (l1 l2 l3 l4 : Value) (l0 : Nat) (H : HS) : rn 184 91 [.ref l0, l1, l2, l3, l4] [] H = rn 184 92 [.ref l0, l1, l2, l3, l4] [.ref l0] H := rn_nx rfl
theorem x184_92 (l0 l1 l2 l3 l4 : Value) (s0 : Nat) (H : HS) : rn 184 92 [l0, l1, l2, l3, l4] [.ref s0] H = gk 184 95 [l0, l1, l2, l3, l4] [] H (gfd H 5 0 s0) := (rn_ev ..).trans (ev_gk rfl)
theorem x184_95 (l0 l1 l3 l4 : Value) (l2 : Int32) (s0 : Nat) (H : HS) : rn 184 95 [l0, l1, .int l2, l3, l4] [.ref s0] H = rn 184 96 [l0, l1, .int l2, l3, l4] [.int l2, .ref s0] H := rn_nx rfl
theorem x184_96 (l0 l1 l2 l3 l4 : Value) (s0 : Int32) (s1 : Nat) (H : HS) : rn 184 96 [l0, l1, l2, l3, l4] [.int s0, .ref s1] H = rn 184 97 [l0, l1, l2, l3, l4] [.int 5, .int s0, .ref s1] H := rn_nx rfl
theorem x184_97 (l0 l1 l2 l3 l4 : Value) (s0 : Int32) (s1 : Int32) (s2 : Nat) (H : HS) : rn 184 97 [l0, l1, l2, l3, l4] [.int s0, .int s1, .ref s2] H = rn 184 98 [l0, l1, l2, l3, l4] [.int (s1 + s0), .ref s2] H := rn_nx rfl
theorem x184_98 (l0 l1 l2 l4 : Value) (l3 : Int32) (s0 : Int32) (s1 : Nat) (H : HS) : rn 184 98 [l0, l1, l2, .int l3, l4] [.int s0, .ref s1] H = rn 184 99 [l0, l1, l2, .int l3, l4] [.int l3, .int s0, .ref s1] H := rn_nx rfl
theorem x184_99 (l0 l1 l2 l3 l4 : Value) (s0 : Int32) (s1 : Int32) (s2 : Nat) (H : HS) : rn 184 99 [l0, l1, l2, l3, l4] [.int s0, .int s1, .ref s2] H = pk 184 100 [l0, l1, l2, l3, l4] [] (ast H 100 s2 s1 (.int s0)) := (rn_ev ..).trans (ev_pk rfl)
theorem x184_100 (l1 l2 l3 l4 : Value) (l0 : Nat) (H : HS) : rn 184 100 [.ref l0, l1, l2, l3, l4] [] H = rn 184 101 [.ref l0, l1, l2, l3, l4] [.ref l0] H := rn_nx rfl
theorem x184_101 (l0 l1 l2 l3 l4 : Value) (s0 : Nat) (H : HS) : rn 184 101 [l0, l1, l2, l3, l4] [.ref s0] H = gk 184 104 [l0, l1, l2, l3, l4] [] H (gfd H 5 0 s0) := (rn_ev ..).trans (ev_gk rfl)
theorem x184_104 (l0 l1 l3 l4 : Value) (l2 : Int32) (s0 : Nat) (H : HS) : rn 184 104 [l0, l1, .int l2, l3, l4] [.ref s0] H = rn 184 105 [l0, l1, .int l2, l3, l4] [.int l2, .ref s0] H := rn_nx rfl
theorem x184_105 (l0 l1 l2 l3 l4 : Value) (s0 : Int32) (s1 : Nat) (H : HS) : rn 184 105 [l0, l1, l2, l3, l4] [.int s0, .ref s1] H = rn 184 107 [l0, l1, l2, l3, l4] [.int 6, .int s0, .ref s1] H := rn_nx rfl
theorem x184_107 (l0 l1 l2 l3 l4 : Value) (s0 : Int32) (s1 : Int32) (s2 : Nat) (H : HS) : rn 184 107 [l0, l1, l2, l3, l4] [.int s0, .int s1, .ref s2] H = rn 184 108 [l0, l1, l2, l3, l4] [.int (s1 + s0), .ref s2] H := rn_nx rfl
theorem x184_108 (l1 l2 l3 l4 : Value) (l0 : Nat) (s0 : Int32) (s1 : Nat) (H : HS) : rn 184 108 [.ref l0, l1, l2, l3, l4] [.int s0, .ref s1] H = rn 184 109 [.ref l0, l1, l2, l3, l4] [.ref l0, .int s0, .ref s1] H := rn_nx rfl
theorem x184_109 (l0 l1 l2 l3 l4 : Value) (s0 : Nat) (s1 : Int32) (s2 : Nat) (H : HS) : rn 184 109 [l0, l1, l2, l3, l4] [.ref s0, .int s1, .ref s2] H = gk 184 112 [l0, l1, l2, l3, l4] [.int s1, .ref s2] H (gfd H 5 0 s0) := (rn_ev ..).trans (ev_gk rfl)
theorem x184_112 (l0 l1 l2 l3 l4 : Value) (s0 : Nat) (s1 : Int32) (s2 : Nat) (H : HS) : rn 184 112 [l0, l1, l2, l3, l4] [.ref s0, .int s1, .ref s2] H = rn 184 114 [l0, l1, l2, l3, l4] [.int 16, .ref s0, .int s1, .ref s2] H := rn_nx rfl
theorem x184_114 (l0 l1 l2 l4 : Value) (l3 : Int32) (s0 : Int32) (s1 : Nat) (s2 : Int32) (s3 : Nat) (H : HS) : rn 184 114 [l0, l1, l2, .int l3, l4] [.int s0, .ref s1, .int s2, .ref s3] H = rn 184 115 [l0, l1, l2, .int l3, l4] [.int l3, .int s0, .ref s1, .int s2, .ref s3] H := rn_nx rfl
theorem x184_115 (l0 l1 l2 l3 l4 : Value) (s0 : Int32) (s1 : Int32) (s2 : Nat) (s3 : Int32) (s4 : Nat) (H : HS) : rn 184 115 [l0, l1, l2, l3, l4] [.int s0, .int s1, .ref s2, .int s3, .ref s4] H = rn 184 116 [l0, l1, l2, l3, l4] [.int (s1 + s0), .ref s2, .int s3, .ref s4] H := rn_nx rfl
theorem x184_116 (l0 l1 l2 l3 l4 : Value) (s0 : Int32) (s1 : Nat) (s2 : Int32) (s3 : Nat) (H : HS) : rn 184 116 [l0, l1, l2, l3, l4] [.int s0, .ref s1, .int s2, .ref s3] H = gk 184 117 [l0, l1, l2, l3, l4] [.int s2, .ref s3] H (ald H 100 s1 s0) := (rn_ev ..).trans (ev_gk rfl)
theorem x184_117 (l0 l1 l2 l3 l4 : Value) (s0 : Int32) (s1 : Int32) (s2 : Nat) (H : HS) : rn 184 117 [l0, l1, l2, l3, l4] [.int s0, .int s1, .ref s2] H = pk 184 118 [l0, l1, l2, l3, l4] [] (ast H 100 s2 s1 (.int s0)) := (rn_ev ..).trans (ev_pk rfl)
theorem x184_118 (l0 l1 l2 l3 l4 : Value) (H : HS) : rn 184 118 [l0, l1, l2, l3, l4] [] H = rn 184 134 [l0, l1, l2, l3, l4] [] H := rn_nx rfl
theorem x184_134 (l0 l1 l2 l3 l4 : Value) (H : HS) : rn 184 134 [l0, l1, l2, l3, l4] [] H = some (.inl none, H) := rn_end rfl
theorem x184_121 (l1 l2 l3 l4 : Value) (l0 : Nat) (H : HS) : rn 184 121 [.ref l0, l1, l2, l3, l4] [] H = rn 184 122 [.ref l0, l1, l2, l3, l4] [.ref l0] H := rn_nx rfl
theorem x184_122 (l0 l1 l2 l3 l4 : Value) (s0 : Nat) (H : HS) : rn 184 122 [l0, l1, l2, l3, l4] [.ref s0] H = gk 184 125 [l0, l1, l2, l3, l4] [] H (gfd H 5 0 s0) := (rn_ev ..).trans (ev_gk rfl)
theorem x184_125 (l0 l1 l3 l4 : Value) (l2 : Int32) (s0 : Nat) (H : HS) : rn 184 125 [l0, l1, .int l2, l3, l4] [.ref s0] H = rn 184 126 [l0, l1, .int l2, l3, l4] [.int l2, .ref s0] H := rn_nx rfl
theorem x184_126 (l0 l1 l2 l3 l4 : Value) (s0 : Int32) (s1 : Nat) (H : HS) : rn 184 126 [l0, l1, l2, l3, l4] [.int s0, .ref s1] H = rn 184 128 [l0, l1, l2, l3, l4] [.int 8, .int s0, .ref s1] H := rn_nx rfl
theorem x184_128 (l0 l1 l2 l3 l4 : Value) (s0 : Int32) (s1 : Int32) (s2 : Nat) (H : HS) : rn 184 128 [l0, l1, l2, l3, l4] [.int s0, .int s1, .ref s2] H = rn 184 129 [l0, l1, l2, l3, l4] [.int (s1 + s0), .ref s2] H := rn_nx rfl
theorem x184_129 (l0 l1 l2 l3 l4 : Value) (s0 : Int32) (s1 : Nat) (H : HS) : rn 184 129 [l0, l1, l2, l3, l4] [.int s0, .ref s1] H = rn 184 130 [l0, l1, l2, l3, l4] [.int s0, .ref s1, .int s0, .ref s1] H := rn_nx rfl
theorem x184_130 (l0 l1 l2 l3 l4 : Value) (s0 : Int32) (s1 : Nat) (s2 : Int32) (s3 : Nat) (H : HS) : rn 184 130 [l0, l1, l2, l3, l4] [.int s0, .ref s1, .int s2, .ref s3] H = gk 184 131 [l0, l1, l2, l3, l4] [.int s2, .ref s3] H (ald H 100 s1 s0) := (rn_ev ..).trans (ev_gk rfl)
theorem x184_131 (l0 l1 l2 l3 l4 : Value) (s0 : Int32) (s1 : Int32) (s2 : Nat) (H : HS) : rn 184 131 [l0, l1, l2, l3, l4] [.int s0, .int s1, .ref s2] H = rn 184 132 [l0, l1, l2, l3, l4] [.int 1, .int s0, .int s1, .ref s2] H := rn_nx rfl
theorem x184_132 (l0 l1 l2 l3 l4 : Value) (s0 : Int32) (s1 : Int32) (s2 : Int32) (s3 : Nat) (H : HS) : rn 184 132 [l0, l1, l2, l3, l4] [.int s0, .int s1, .int s2, .ref s3] H = rn 184 133 [l0, l1, l2, l3, l4] [.int (s1 + s0), .int s2, .ref s3] H := rn_nx rfl
theorem x184_133 (l0 l1 l2 l3 l4 : Value) (s0 : Int32) (s1 : Int32) (s2 : Nat) (H : HS) : rn 184 133 [l0, l1, l2, l3, l4] [.int s0, .int s1, .ref s2] H = pk 184 134 [l0, l1, l2, l3, l4] [] (ast H 100 s2 s1 (.int s0)) := (rn_ev ..).trans (ev_pk rfl)
theorem x184_24 (l1 l2 l3 l4 : Value) (l0 : Nat) (H : HS) : rn 184 24 [.ref l0, l1, l2, l3, l4] [] H = rn 184 25 [.ref l0, l1, l2, l3, l4] [.ref l0] H := rn_nx rfl
theorem x184_25 (l0 l1 l2 l3 l4 : Value) (s0 : Nat) (H : HS) : rn 184 25 [l0, l1, l2, l3, l4] [.ref s0] H = gk 184 28 [l0, l1, l2, l3, l4] [] H (gfd H 5 0 s0) := (rn_ev ..).trans (ev_gk rfl)
theorem x184_28 (l0 l1 l3 l4 : Value) (l2 : Int32) (s0 : Nat) (H : HS) : rn 184 28 [l0, l1, .int l2, l3, l4] [.ref s0] H = rn 184 29 [l0, l1, .int l2, l3, l4] [.int l2, .ref s0] H := rn_nx rfl
theorem x184_29 (l0 l1 l2 l3 l4 : Value) (s0 : Int32) (s1 : Nat) (H : HS) : rn 184 29 [l0, l1, l2, l3, l4] [.int s0, .ref s1] H = rn 184 30 [l0, l1, l2, l3, l4] [.int 5, .int s0, .ref s1] H := rn_nx rfl
theorem x184_30 (l0 l1 l2 l3 l4 : Value) (s0 : Int32) (s1 : Int32) (s2 : Nat) (H : HS) : rn 184 30 [l0, l1, l2, l3, l4] [.int s0, .int s1, .ref s2] H = rn 184 31 [l0, l1, l2, l3, l4] [.int (s1 + s0), .ref s2] H := rn_nx rfl
theorem x184_31 (l0 l1 l2 l3 l4 : Value) (s0 : Int32) (s1 : Nat) (H : HS) : rn 184 31 [l0, l1, l2, l3, l4] [.int s0, .ref s1] H = gk 184 32 [l0, l1, l2, l3, l4] [] H (ald H 100 s1 s0) := (rn_ev ..).trans (ev_gk rfl)
theorem x184_32 (l0 l1 l2 l3 l4 : Value) (s0 : Int32) (H : HS) : rn 184 32 [l0, l1, l2, l3, l4] [.int s0] H = rn 184 33 [l0, l1, l2, l3, l4] [.int 1, .int s0] H := rn_nx rfl
theorem x184_33 (l0 l1 l2 l3 l4 : Value) (s0 : Int32) (s1 : Int32) (H : HS) : rn 184 33 [l0, l1, l2, l3, l4] [.int s0, .int s1] H = rn 184 34 [l0, l1, l2, l3, l4] [.int (s1 - s0)] H := rn_nx rfl
theorem c184 (a0 : Nat) (a1 : Int32) (H : HS) : rcal 184 [.ref a0, .int a1] H = rn 184 0 [.ref a0, .int a1, un, un, un] [] H := rfl
theorem x185_0 (l0 l1 l2 l3 l4 l5 : Value) (H : HS) : rn 185 0 [l0, l1, l2, l3, l4, l5] [] H = rn 185 1 [l0, l1, l2, l3, l4, l5] [.int 0] H := rn_nx rfl
theorem x185_1 (l0 l1 l2 l3 l4 l5 : Value) (s0 : Int32) (H : HS) : rn 185 1 [l0, l1, l2, l3, l4, l5] [.int s0] H = rn 185 2 [l0, (kl l1), .int s0, l3, l4, l5] [] H := rn_nx rfl
theorem x185_2 (l0 l1 l3 l4 l5 : Value) (l2 : Int32) (H : HS) : rn 185 2 [l0, l1, .int l2, l3, l4, l5] [] H = rn 185 3 [l0, l1, .int l2, l3, l4, l5] [.int l2] H := rn_nx rfl
theorem x185_3 (l1 l2 l3 l4 l5 : Value) (l0 : Nat) (s0 : Int32) (H : HS) : rn 185 3 [.ref l0, l1, l2, l3, l4, l5] [.int s0] H = rn 185 4 [.ref l0, l1, l2, l3, l4, l5] [.ref l0, .int s0] H := rn_nx rfl
theorem x185_4 (l0 l1 l2 l3 l4 l5 : Value) (s0 : Nat) (s1 : Int32) (H : HS) : rn 185 4 [l0, l1, l2, l3, l4, l5] [.ref s0, .int s1] H = gk 185 7 [l0, l1, l2, l3, l4, l5] [.int s1] H (gfd H 5 0 s0) := (rn_ev ..).trans (ev_gk rfl)
theorem x185_7 (l0 l1 l2 l3 l4 l5 : Value) (s0 : Nat) (s1 : Int32) (H : HS) : rn 185 7 [l0, l1, l2, l3, l4, l5] [.ref s0, .int s1] H = rn 185 8 [l0, l1, l2, l3, l4, l5] [.int 1, .ref s0, .int s1] H := rn_nx rfl
theorem x185_8 (l0 l1 l2 l3 l4 l5 : Value) (s0 : Int32) (s1 : Nat) (s2 : Int32) (H : HS) : rn 185 8 [l0, l1, l2, l3, l4, l5] [.int s0, .ref s1, .int s2] H = gk 185 9 [l0, l1, l2, l3, l4, l5] [.int s2] H (ald H 100 s1 s0) := (rn_ev ..).trans (ev_gk rfl)
theorem x185_9 (l0 l1 l2 l3 l4 l5 : Value) (s0 : Int32) (s1 : Int32) (H : HS) : rn 185 9 [l0, l1, l2, l3, l4, l5] [.int s0, .int s1] H = if s1 < s0 then rn 185 12 [l0, l1, l2, l3, l4, l5] [] H else rn 185 97 [l0, l1, l2, l3, l4, l5] [] H := (rn_ev ..).trans (ev_bin rfl)
theorem x185_12 (l0 l1 l2 l3 l4 l5 : Value) (H : HS) : rn 185 12 [l0, l1, l2, l3, l4, l5] [] H = rn 185 13 [l0, l1, l2, l3, l4, l5] [.int 0] H := rn_nx rfl
theorem x185_13 (l0 l1 l2 l3 l4 l5 : Value) (s0 : Int32) (H : HS) : rn 185 13 [l0, l1, l2, l3, l4, l5] [.int s0] H = rn 185 14 [l0, l1, (kl l2), .int s0, l4, l5] [] H := rn_nx rfl
theorem x185_14 (l0 l1 l2 l3 l4 l5 : Value) (H : HS) : rn 185 14 [l0, l1, l2, l3, l4, l5] [] H = rn 185 15 [l0, l1, l2, l3, l4, l5] [.int 0] H := rn_nx rfl
theorem x185_15 (l0 l1 l2 l3 l4 l5 : Value) (s0 : Int32) (H : HS) : rn 185 15 [l0, l1, l2, l3, l4, l5] [.int s0] H = rn 185 17 [l0, l1, l2, (kl l3), .int s0, l5] [] H := rn_nx rfl
theorem x185_17 (l0 l1 l2 l3 l5 : Value) (l4 : Int32) (H : HS) : rn 185 17 [l0, l1, l2, l3, .int l4, l5] [] H = rn 185 19 [l0, l1, l2, l3, .int l4, l5] [.int l4] H := rn_nx rfl
theorem x185_19 (l1 l2 l3 l4 l5 : Value) (l0 : Nat) (s0 : Int32) (H : HS) : rn 185 19 [.ref l0, l1, l2, l3, l4, l5] [.int s0] H = rn 185 20 [.ref l0, l1, l2, l3, l4, l5] [.ref l0, .int s0] H := rn_nx rfl
theorem x185_20 (l0 l1 l2 l3 l4 l5 : Value) (s0 : Nat) (s1 : Int32) (H : HS) : rn 185 20 [l0, l1, l2, l3, l4, l5] [.ref s0, .int s1] H = gk 185 23 [l0, l1, l2, l3, l4, l5] [.int s1] H (gfd H 5 0 s0) := (rn_ev ..).trans (ev_gk rfl)
theorem x185_23 (l0 l1 l2 l3 l4 l5 : Value) (s0 : Nat) (s1 : Int32) (H : HS) : rn 185 23 [l0, l1, l2, l3, l4, l5] [.ref s0, .int s1] H = rn 185 24 [l0, l1, l2, l3, l4, l5] [.int 1, .ref s0, .int s1] H := rn_nx rfl
theorem x185_24 (l0 l1 l2 l3 l4 l5 : Value) (s0 : Int32) (s1 : Nat) (s2 : Int32) (H : HS) : rn 185 24 [l0, l1, l2, l3, l4, l5] [.int s0, .ref s1, .int s2] H = gk 185 25 [l0, l1, l2, l3, l4, l5] [.int s2] H (ald H 100 s1 s0) := (rn_ev ..).trans (ev_gk rfl)
theorem x185_25 (l0 l1 l2 l3 l4 l5 : Value) (s0 : Int32) (s1 : Int32) (H : HS) : rn 185 25 [l0, l1, l2, l3, l4, l5] [.int s0, .int s1] H = if s1 < s0 then rn 185 28 [l0, l1, l2, l3, l4, l5] [] H else rn 185 84 [l0, l1, l2, l3, l4, l5] [] H := (rn_ev ..).trans (ev_bin rfl)
theorem x185_28 (l1 l2 l3 l4 l5 : Value) (l0 : Nat) (H : HS) : rn 185 28 [.ref l0, l1, l2, l3, l4, l5] [] H = rn 185 29 [.ref l0, l1, l2, l3, l4, l5] [.ref l0] H := rn_nx rfl
theorem x185_29 (l0 l1 l2 l3 l4 l5 : Value) (s0 : Nat) (H : HS) : rn 185 29 [l0, l1, l2, l3, l4, l5] [.ref s0] H = gk 185 32 [l0, l1, l2, l3, l4, l5] [] H (gfd H 5 0 s0) := (rn_ev ..).trans (ev_gk rfl)
theorem x185_32 (l0 l1 l2 l3 l5 : Value) (l4 : Int32) (s0 : Nat) (H : HS) : rn 185 32 [l0, l1, l2, l3, .int l4, l5] [.ref s0] H = rn 185 34 [l0, l1, l2, l3, .int l4, l5] [.int l4, .ref s0] H := rn_nx rfl
theorem x185_34 (l0 l1 l2 l3 l4 l5 : Value) (s0 : Int32) (s1 : Nat) (H : HS) : rn 185 34 [l0, l1, l2, l3, l4, l5] [.int s0, .ref s1] H = bnd true 185 34 [l0, l1, l2, l3, l4, l5] [.ref s1] (rcal 154 [.int s0] H) := rn_cal rfl
theorem x185_37 (l0 l1 l2 l3 l4 l5 : Value) (s0 : Int32) (s1 : Nat) (H : HS) : rn 185 37 [l0, l1, l2, l3, l4, l5] [.int s0, .ref s1] H = rn 185 38 [l0, l1, l2, l3, l4, l5] [.int 3, .int s0, .ref s1] H := rn_nx rfl
theorem x185_38 (l0 l1 l2 l3 l4 l5 : Value) (s0 : Int32) (s1 : Int32) (s2 : Nat) (H : HS) : rn 185 38 [l0, l1, l2, l3, l4, l5] [.int s0, .int s1, .ref s2] H = rn 185 39 [l0, l1, l2, l3, l4, l5] [.int (s1 + s0), .ref s2] H := rn_nx rfl
theorem x185_39 (l0 l1 l2 l3 l4 l5 : Value) (s0 : Int32) (s1 : Nat) (H : HS) : rn 185 39 [l0, l1, l2, l3, l4, l5] [.int s0, .ref s1] H = gk 185 40 [l0, l1, l2, l3, l4, l5] [] H (ald H 100 s1 s0) := (rn_ev ..).trans (ev_gk rfl)
theorem x185_40 (l1 l2 l3 l4 l5 : Value) (l0 : Nat) (s0 : Int32) (H : HS) : rn 185 40 [.ref l0, l1, l2, l3, l4, l5] [.int s0] H = rn 185 41 [.ref l0, l1, l2, l3, l4, l5] [.ref l0, .int s0] H := rn_nx rfl
theorem x185_41 (l0 l1 l2 l3 l4 l5 : Value) (s0 : Nat) (s1 : Int32) (H : HS) : rn 185 41 [l0, l1, l2, l3, l4, l5] [.ref s0, .int s1] H = gk 185 44 [l0, l1, l2, l3, l4, l5] [.int s1] H (gfd H 5 0 s0) := (rn_ev ..).trans (ev_gk rfl)
theorem x185_44 (l0 l1 l3 l4 l5 : Value) (l2 : Int32) (s0 : Nat) (s1 : Int32) (H : HS) : rn 185 44 [l0, l1, .int l2, l3, l4, l5] [.ref s0, .int s1] H = rn 185 45 [l0, l1, .int l2, l3, l4, l5] [.int l2, .ref s0, .int s1] H := rn_nx rfl
theorem x185_45 (l0 l1 l2 l3 l4 l5 : Value) (s0 : Int32) (s1 : Nat) (s2 : Int32) (H : HS) : rn 185 45 [l0, l1, l2, l3, l4, l5] [.int s0, .ref s1, .int s2] H = bnd true 185 45 [l0, l1, l2, l3, l4, l5] [.ref s1, .int s2] (rcal 154 [.int s0] H) := rn_cal rfl
theorem x185_48 (l0 l1 l2 l3 l4 l5 : Value) (s0 : Int32) (s1 : Nat) (s2 : Int32) (H : HS) : rn 185 48 [l0, l1, l2, l3, l4, l5] [.int s0, .ref s1, .int s2] H = rn 185 49 [l0, l1, l2, l3, l4, l5] [.int 3, .int s0, .ref s1, .int s2] H := rn_nx rfl
theorem x185_49 (l0 l1 l2 l3 l4 l5 : Value) (s0 : Int32) (s1 : Int32) (s2 : Nat) (s3 : Int32) (H : HS) : rn 185 49 [l0, l1, l2, l3, l4, l5] [.int s0, .int s1, .ref s2, .int s3] H = rn 185 50 [l0, l1, l2, l3, l4, l5] [.int (s1 + s0), .ref s2, .int s3] H := rn_nx rfl
theorem x185_50 (l0 l1 l2 l3 l4 l5 : Value) (s0 : Int32) (s1 : Nat) (s2 : Int32) (H : HS) : rn 185 50 [l0, l1, l2, l3, l4, l5] [.int s0, .ref s1, .int s2] H = gk 185 51 [l0, l1, l2, l3, l4, l5] [.int s2] H (ald H 100 s1 s0) := (rn_ev ..).trans (ev_gk rfl)
theorem x185_51 (l0 l1 l2 l3 l4 l5 : Value) (s0 : Int32) (s1 : Int32) (H : HS) : rn 185 51 [l0, l1, l2, l3, l4, l5] [.int s0, .int s1] H = rn 185 52 [l0, l1, l2, l3, l4, l5] [.int (s1 - s0)] H := rn_nx rfl
theorem x185_52 (l0 l1 l2 l3 l4 l5 : Value) (s0 : Int32) (H : HS) : rn 185 52 [l0, l1, l2, l3, l4, l5] [.int s0] H = rn 185 54 [l0, l1, l2, l3, (kl l4), .int s0] [] H := rn_nx rfl
theorem x185_54 (l0 l1 l2 l4 l5 : Value) (l3 : Int32) (H : HS) : rn 185 54 [l0, l1, l2, .int l3, l4, l5] [] H = rn 185 55 [l0, l1, l2, .int l3, l4, l5] [.int l3] H := rn_nx rfl
theorem x185_55 (l0 l1 l2 l3 l4 : Value) (l5 : Int32) (s0 : Int32) (H : HS) : rn 185 55 [l0, l1, l2, l3, l4, .int l5] [.int s0] H = rn 185 57 [l0, l1, l2, l3, l4, .int l5] [.int l5, .int s0] H := rn_nx rfl
theorem x185_57 (l0 l1 l2 l3 l4 l5 : Value) (s0 : Int32) (s1 : Int32) (H : HS) : rn 185 57 [l0, l1, l2, l3, l4, l5] [.int s0, .int s1] H = if s0 < 0 then rn 185 71 [l0, l1, l2, l3, l4, l5] [.int s1] H else rn 185 60 [l0, l1, l2, l3, l4, l5] [.int s1] H := (rn_ev ..).trans (ev_bif rfl)
theorem x185_60 (l0 l1 l2 l3 l4 : Value) (l5 : Int32) (s0 : Int32) (H : HS) : rn 185 60 [l0, l1, l2, l3, l4, .int l5] [.int s0] H = rn 185 62 [l0, l1, l2, l3, l4, .int l5] [.int l5, .int s0] H := rn_nx rfl
theorem x185_62 (l0 l1 l2 l3 l4 l5 : Value) (s0 : Int32) (s1 : Int32) (H : HS) : rn 185 62 [l0, l1, l2, l3, l4, l5] [.int s0, .int s1] H = if s0 = 0 then rn 185 65 [l0, l1, l2, l3, l4, l5] [.int s1] H else rn 185 75 [l0, l1, l2, l3, l4, l5] [.int s1] H := (rn_ev ..).trans (ev_bin rfl)
theorem x185_65 (l0 l1 l2 l3 l5 : Value) (l4 : Int32) (s0 : Int32) (H : HS) : rn 185 65 [l0, l1, l2, l3, .int l4, l5] [.int s0] H = rn 185 67 [l0, l1, l2, l3, .int l4, l5] [.int l4, .int s0] H := rn_nx rfl
theorem x185_67 (l0 l1 l3 l4 l5 : Value) (l2 : Int32) (s0 : Int32) (s1 : Int32) (H : HS) : rn 185 67 [l0, l1, .int l2, l3, l4, l5] [.int s0, .int s1] H = rn 185 68 [l0, l1, .int l2, l3, l4, l5] [.int l2, .int s0, .int s1] H := rn_nx rfl
theorem x185_68 (l0 l1 l2 l3 l4 l5 : Value) (s0 : Int32) (s1 : Int32) (s2 : Int32) (H : HS) : rn 185 68 [l0, l1, l2, l3, l4, l5] [.int s0, .int s1, .int s2] H = if s1 < s0 then rn 185 71 [l0, l1, l2, l3, l4, l5] [.int s2] H else rn 185 75 [l0, l1, l2, l3, l4, l5] [.int s2] H := (rn_ev ..).trans (ev_bin rfl)
theorem x185_71 (l0 l1 l2 l3 l4 l5 : Value) (s0 : Int32) (H : HS) : rn 185 71 [l0, l1, l2, l3, l4, l5] [.int s0] H = rn 185 72 [l0, l1, l2, l3, l4, l5] [.int 1, .int s0] H := rn_nx rfl
theorem x185_72 (l0 l1 l2 l3 l4 l5 : Value) (s0 : Int32) (s1 : Int32) (H : HS) : rn 185 72 [l0, l1, l2, l3, l4, l5] [.int s0, .int s1] H = rn 185 76 [l0, l1, l2, l3, l4, l5] [.int s0, .int s1] H := rn_nx rfl
theorem x185_76 (l0 l1 l2 l3 l4 l5 : Value) (s0 : Int32) (s1 : Int32) (H : HS) : rn 185 76 [l0, l1, l2, l3, l4, l5] [.int s0, .int s1] H = rn 185 77 [l0, l1, l2, l3, l4, l5] [.int (s1 + s0)] H := rn_nx rfl
theorem x185_77 (l0 l1 l2 l3 l4 l5 : Value) (s0 : Int32) (H : HS) : rn 185 77 [l0, l1, l2, l3, l4, l5] [.int s0] H = rn 185 78 [l0, l1, (kl l2), .int s0, l4, l5] [] H := rn_nx rfl
theorem x185_78 (l0 l1 l2 l3 l5 : Value) (l4 : Int32) (H : HS) : rn 185 78 [l0, l1, l2, l3, .int l4, l5] [] H = rn 185 81 [l0, l1, l2, (kl l3), .int (l4 + 1), l5] [] H := rn_nx rfl
theorem x185_81 (l0 l1 l2 l3 l4 l5 : Value) (H : HS) : rn 185 81 [l0, l1, l2, l3, l4, l5] [] H = rn 185 17 [l0, l1, l2, l3, l4, l5] [] H := rn_nx rfl
theorem x185_75 (l0 l1 l2 l3 l4 l5 : Value) (s0 : Int32) (H : HS) : rn 185 75 [l0, l1, l2, l3, l4, l5] [.int s0] H = rn 185 76 [l0, l1, l2, l3, l4, l5] [.int 0, .int s0] H := rn_nx rfl
theorem x185_84 (l0 l1 l2 l4 l5 : Value) (l3 : Int32) (H : HS) : rn 185 84 [l0, l1, l2, .int l3, l4, l5] [] H = rn 185 85 [l0, l1, l2, .int l3, l4, l5] [.int l3] H := rn_nx rfl
theorem x185_85 (l0 l2 l3 l4 l5 : Value) (l1 : Int32) (s0 : Int32) (H : HS) : rn 185 85 [l0, .int l1, l2, l3, l4, l5] [.int s0] H = rn 185 86 [l0, .int l1, l2, l3, l4, l5] [.int l1, .int s0] H := rn_nx rfl
theorem x185_86 (l0 l1 l2 l3 l4 l5 : Value) (s0 : Int32) (s1 : Int32) (H : HS) : rn 185 86 [l0, l1, l2, l3, l4, l5] [.int s0, .int s1] H = if s1 = s0 then rn 185 89 [l0, l1, l2, l3, l4, l5] [] H else rn 185 91 [l0, l1, l2, l3, l4, l5] [] H := (rn_ev ..).trans (ev_bin rfl)
theorem x185_89 (l0 l1 l3 l4 l5 : Value) (l2 : Int32) (H : HS) : rn 185 89 [l0, l1, .int l2, l3, l4, l5] [] H = rn 185 90 [l0, l1, .int l2, l3, l4, l5] [.int l2] H := rn_nx rfl
theorem x185_90 (l0 l1 l2 l3 l4 l5 : Value) (s0 : Int32) (H : HS) : rn 185 90 [l0, l1, l2, l3, l4, l5] [.int s0] H = some (.inl (some (.int s0)), H) := rn_end rfl
theorem x185_91 (l0 l1 l3 l4 l5 : Value) (l2 : Int32) (H : HS) : rn 185 91 [l0, l1, .int l2, l3, l4, l5] [] H = rn 185 94 [l0, (kl l1), .int (l2 + 1), l3, l4, l5] [] H := rn_nx rfl
theorem x185_94 (l0 l1 l2 l3 l4 l5 : Value) (H : HS) : rn 185 94 [l0, l1, l2, l3, l4, l5] [] H = rn 185 2 [l0, l1, l2, l3, l4, l5] [] H := rn_nx rfl
theorem x185_97 (l0 l1 l2 l3 l4 l5 : Value) (H : HS) : rn 185 97 [l0, l1, l2, l3, l4, l5] [] H = rn 185 98 [l0, l1, l2, l3, l4, l5] [.int (-1)] H := rn_nx rfl
theorem x185_98 (l0 l1 l2 l3 l4 l5 : Value) (s0 : Int32) (H : HS) : rn 185 98 [l0, l1, l2, l3, l4, l5] [.int s0] H = some (.inl (some (.int s0)), H) := rn_end rfl
theorem c185 (a0 : Nat) (a1 : Int32) (H : HS) : rcal 185 [.ref a0, .int a1] H = rn 185 0 [.ref a0, .int a1, un, un, un, un] [] H := rfl
theorem x186_0 (l1 l2 l3 : Value) (l0 : Nat) (H : HS) : rn 186 0 [.ref l0, l1, l2, l3] [] H = rn 186 1 [.ref l0, l1, l2, l3] [.ref l0] H := rn_nx rfl
theorem x186_1 (l0 l1 l2 l3 : Value) (s0 : Nat) (H : HS) : rn 186 1 [l0, l1, l2, l3] [.ref s0] H = gk 186 4 [l0, l1, l2, l3] [] H (gfd H 5 0 s0) := (rn_ev ..).trans (ev_gk rfl)
theorem x186_4 (l0 l1 l2 l3 : Value) (s0 : Nat) (H : HS) : rn 186 4 [l0, l1, l2, l3] [.ref s0] H = rn 186 5 [l0, l1, l2, l3] [.int 3, .ref s0] H := rn_nx rfl
theorem x186_5 (l0 l1 l2 l3 : Value) (s0 : Int32) (s1 : Nat) (H : HS) : rn 186 5 [l0, l1, l2, l3] [.int s0, .ref s1] H = rn 186 6 [l0, l1, l2, l3] [.int s0, .ref s1, .int s0, .ref s1] H := rn_nx rfl
theorem x186_6 (l0 l1 l2 l3 : Value) (s0 : Int32) (s1 : Nat) (s2 : Int32) (s3 : Nat) (H : HS) : rn 186 6 [l0, l1, l2, l3] [.int s0, .ref s1, .int s2, .ref s3] H = gk 186 7 [l0, l1, l2, l3] [.int s2, .ref s3] H (ald H 100 s1 s0) := (rn_ev ..).trans (ev_gk rfl)
theorem x186_7 (l0 l1 l2 l3 : Value) (s0 : Int32) (s1 : Int32) (s2 : Nat) (H : HS) : rn 186 7 [l0, l1, l2, l3] [.int s0, .int s1, .ref s2] H = rn 186 8 [l0, l1, l2, l3] [.int 1, .int s0, .int s1, .ref s2] H := rn_nx rfl
theorem x186_8 (l0 l1 l2 l3 : Value) (s0 : Int32) (s1 : Int32) (s2 : Int32) (s3 : Nat) (H : HS) : rn 186 8 [l0, l1, l2, l3] [.int s0, .int s1, .int s2, .ref s3] H = rn 186 9 [l0, l1, l2, l3] [.int (s1 + s0), .int s2, .ref s3] H := rn_nx rfl
theorem x186_9 (l0 l1 l2 l3 : Value) (s0 : Int32) (s1 : Int32) (s2 : Nat) (H : HS) : rn 186 9 [l0, l1, l2, l3] [.int s0, .int s1, .ref s2] H = pk 186 10 [l0, l1, l2, l3] [] (ast H 100 s2 s1 (.int s0)) := (rn_ev ..).trans (ev_pk rfl)
theorem x186_10 (l1 l2 l3 : Value) (l0 : Nat) (H : HS) : rn 186 10 [.ref l0, l1, l2, l3] [] H = rn 186 11 [.ref l0, l1, l2, l3] [.ref l0] H := rn_nx rfl
theorem x186_11 (l0 l1 l2 l3 : Value) (s0 : Nat) (H : HS) : rn 186 11 [l0, l1, l2, l3] [.ref s0] H = rn 186 12 [l0, l1, l2, l3] [.int 0, .ref s0] H := rn_nx rfl
theorem x186_12 (l0 l1 l2 l3 : Value) (s0 : Int32) (s1 : Nat) (H : HS) : rn 186 12 [l0, l1, l2, l3] [.int s0, .ref s1] H = pk 186 15 [l0, l1, l2, l3] [] (pfd H true 5 13 s1 (.int s0)) := (rn_ev ..).trans (ev_pk rfl)
theorem x186_15 (l1 l2 l3 : Value) (l0 : Nat) (H : HS) : rn 186 15 [.ref l0, l1, l2, l3] [] H = rn 186 16 [.ref l0, l1, l2, l3] [.ref l0] H := rn_nx rfl
theorem x186_16 (l0 l1 l2 l3 : Value) (s0 : Nat) (H : HS) (h : recv H s0 5 = true) : rn 186 16 [l0, l1, l2, l3] [.ref s0] H = bnd true 186 16 [l0, l1, l2, l3] [] (rcal 182 [.ref s0] H) := rn_cal (vcal h rfl)
theorem x186_19 (l1 l2 l3 : Value) (l0 : Nat) (H : HS) : rn 186 19 [.ref l0, l1, l2, l3] [] H = rn 186 20 [.ref l0, l1, l2, l3] [.ref l0] H := rn_nx rfl
theorem x186_20 (l0 l1 l2 l3 : Value) (s0 : Nat) (H : HS) (h : recv H s0 5 = true) : rn 186 20 [l0, l1, l2, l3] [.ref s0] H = bnd true 186 20 [l0, l1, l2, l3] [] (rcal 183 [.ref s0] H) := rn_cal (vcal h rfl)
theorem x186_23 (l0 l1 l2 l3 : Value) (H : HS) : rn 186 23 [l0, l1, l2, l3] [] H = rn 186 24 [l0, l1, l2, l3] [.int 0] H := rn_nx rfl
theorem x186_24 (l0 l1 l2 l3 : Value) (s0 : Int32) (H : HS) : rn 186 24 [l0, l1, l2, l3] [.int s0] H = rn 186 25 [(kl l0), .int s0, l2, l3] [] H := rn_nx rfl
theorem x186_25 (l0 l2 l3 : Value) (l1 : Int32) (H : HS) : rn 186 25 [l0, .int l1, l2, l3] [] H = rn 186 26 [l0, .int l1, l2, l3] [.int l1] H := rn_nx rfl
theorem x186_26 (l1 l2 l3 : Value) (l0 : Nat) (s0 : Int32) (H : HS) : rn 186 26 [.ref l0, l1, l2, l3] [.int s0] H = rn 186 27 [.ref l0, l1, l2, l3] [.ref l0, .int s0] H := rn_nx rfl
theorem x186_27 (l0 l1 l2 l3 : Value) (s0 : Nat) (s1 : Int32) (H : HS) : rn 186 27 [l0, l1, l2, l3] [.ref s0, .int s1] H = gk 186 30 [l0, l1, l2, l3] [.int s1] H (gfd H 5 0 s0) := (rn_ev ..).trans (ev_gk rfl)
theorem x186_30 (l0 l1 l2 l3 : Value) (s0 : Nat) (s1 : Int32) (H : HS) : rn 186 30 [l0, l1, l2, l3] [.ref s0, .int s1] H = rn 186 31 [l0, l1, l2, l3] [.int 1, .ref s0, .int s1] H := rn_nx rfl
theorem x186_31 (l0 l1 l2 l3 : Value) (s0 : Int32) (s1 : Nat) (s2 : Int32) (H : HS) : rn 186 31 [l0, l1, l2, l3] [.int s0, .ref s1, .int s2] H = gk 186 32 [l0, l1, l2, l3] [.int s2] H (ald H 100 s1 s0) := (rn_ev ..).trans (ev_gk rfl)
theorem x186_32 (l0 l1 l2 l3 : Value) (s0 : Int32) (s1 : Int32) (H : HS) : rn 186 32 [l0, l1, l2, l3] [.int s0, .int s1] H = if s1 < s0 then rn 186 35 [l0, l1, l2, l3] [] H else rn 186 94 [l0, l1, l2, l3] [] H := (rn_ev ..).trans (ev_bin rfl)
theorem x186_35 (l1 l2 l3 : Value) (l0 : Nat) (H : HS) : rn 186 35 [.ref l0, l1, l2, l3] [] H = rn 186 36 [.ref l0, l1, l2, l3] [.ref l0] H := rn_nx rfl
theorem x186_36 (l0 l2 l3 : Value) (l1 : Int32) (s0 : Nat) (H : HS) : rn 186 36 [l0, .int l1, l2, l3] [.ref s0] H = rn 186 37 [l0, .int l1, l2, l3] [.int l1, .ref s0] H := rn_nx rfl
theorem x186_37 (l0 l1 l2 l3 : Value) (s0 : Int32) (s1 : Nat) (H : HS) (h : recv H s1 5 = true) : rn 186 37 [l0, l1, l2, l3] [.int s0, .ref s1] H = bnd true 186 37 [l0, l1, l2, l3] [] (rcal 185 [.ref s1, .int s0] H) := rn_cal (vcal h rfl)
theorem x186_40 (l0 l1 l2 l3 : Value) (s0 : Int32) (H : HS) : rn 186 40 [l0, l1, l2, l3] [.int s0] H = rn 186 41 [l0, (kl l1), .int s0, l3] [] H := rn_nx rfl
theorem x186_41 (l0 l1 l3 : Value) (l2 : Int32) (H : HS) : rn 186 41 [l0, l1, .int l2, l3] [] H = rn 186 42 [l0, l1, .int l2, l3] [.int l2] H := rn_nx rfl
theorem x186_42 (l0 l1 l2 l3 : Value) (s0 : Int32) (H : HS) : rn 186 42 [l0, l1, l2, l3] [.int s0] H = bnd true 186 42 [l0, l1, l2, l3] [] (rcal 154 [.int s0] H) := rn_cal rfl
theorem x186_45 (l0 l1 l2 l3 : Value) (s0 : Int32) (H : HS) : rn 186 45 [l0, l1, l2, l3] [.int s0] H = rn 186 46 [l0, l1, (kl l2), .int s0] [] H := rn_nx rfl
theorem x186_46 (l1 l2 l3 : Value) (l0 : Nat) (H : HS) : rn 186 46 [.ref l0, l1, l2, l3] [] H = rn 186 47 [.ref l0, l1, l2, l3] [.ref l0] H := rn_nx rfl
theorem x186_47 (l0 l1 l2 l3 : Value) (s0 : Nat) (H : HS) : rn 186 47 [l0, l1, l2, l3] [.ref s0] H = gk 186 50 [l0, l1, l2, l3] [] H (gfd H 5 0 s0) := (rn_ev ..).trans (ev_gk rfl)
theorem x186_50 (l0 l1 l2 : Value) (l3 : Int32) (s0 : Nat) (H : HS) : rn 186 50 [l0, l1, l2, .int l3] [.ref s0] H = rn 186 51 [l0, l1, l2, .int l3] [.int l3, .ref s0] H := rn_nx rfl
theorem x186_51 (l0 l1 l2 l3 : Value) (s0 : Int32) (s1 : Nat) (H : HS) : rn 186 51 [l0, l1, l2, l3] [.int s0, .ref s1] H = rn 186 52 [l0, l1, l2, l3] [.int 4, .int s0, .ref s1] H := rn_nx rfl
theorem x186_52 (l0 l1 l2 l3 : Value) (s0 : Int32) (s1 : Int32) (s2 : Nat) (H : HS) : rn 186 52 [l0, l1, l2, l3] [.int s0, .int s1, .ref s2] H = rn 186 53 [l0, l1, l2, l3] [.int (s1 + s0), .ref s2] H := rn_nx rfl
theorem x186_53 (l0 l1 l2 l3 : Value) (s0 : Int32) (s1 : Nat) (H : HS) : rn 186 53 [l0, l1, l2, l3] [.int s0, .ref s1] H = gk 186 54 [l0, l1, l2, l3] [] H (ald H 100 s1 s0) := (rn_ev ..).trans (ev_gk rfl)
theorem x186_54 (l0 l1 l2 l3 : Value) (s0 : Int32) (H : HS) : rn 186 54 [l0, l1, l2, l3] [.int s0] H = rn 186 55 [l0, l1, l2, l3] [.int 1, .int s0] H := rn_nx rfl
theorem x186_55 (l0 l1 l2 l3 : Value) (s0 : Int32) (s1 : Int32) (H : HS) : rn 186 55 [l0, l1, l2, l3] [.int s0, .int s1] H = if s1 = s0 then rn 186 58 [l0, l1, l2, l3] [] H else rn 186 88 [l0, l1, l2, l3] [] H := (rn_ev ..).trans (ev_bin rfl)
theorem x186_58 (l1 l2 l3 : Value) (l0 : Nat) (H : HS) : rn 186 58 [.ref l0, l1, l2, l3] [] H = rn 186 59 [.ref l0, l1, l2, l3] [.ref l0] H := rn_nx rfl
theorem x186_59 (l0 l1 l2 l3 : Value) (s0 : Nat) (H : HS) : rn 186 59 [l0, l1, l2, l3] [.ref s0] H = gk 186 62 [l0, l1, l2, l3] [] H (gfd H 5 0 s0) := (rn_ev ..).trans (ev_gk rfl)
theorem x186_62 (l0 l1 l2 : Value) (l3 : Int32) (s0 : Nat) (H : HS) : rn 186 62 [l0, l1, l2, .int l3] [.ref s0] H = rn 186 63 [l0, l1, l2, .int l3] [.int l3, .ref s0] H := rn_nx rfl
theorem x186_63 (l0 l1 l2 l3 : Value) (s0 : Int32) (s1 : Nat) (H : HS) : rn 186 63 [l0, l1, l2, l3] [.int s0, .ref s1] H = rn 186 65 [l0, l1, l2, l3] [.int 7, .int s0, .ref s1] H := rn_nx rfl
theorem x186_65 (l0 l1 l2 l3 : Value) (s0 : Int32) (s1 : Int32) (s2 : Nat) (H : HS) : rn 186 65 [l0, l1, l2, l3] [.int s0, .int s1, .ref s2] H = rn 186 66 [l0, l1, l2, l3] [.int (s1 + s0), .ref s2] H := rn_nx rfl
theorem x186_66 (l0 l1 l2 l3 : Value) (s0 : Int32) (s1 : Nat) (H : HS) : rn 186 66 [l0, l1, l2, l3] [.int s0, .ref s1] H = gk 186 67 [l0, l1, l2, l3] [] H (ald H 100 s1 s0) := (rn_ev ..).trans (ev_gk rfl)
theorem x186_67 (l0 l1 l2 l3 : Value) (s0 : Int32) (H : HS) : rn 186 67 [l0, l1, l2, l3] [.int s0] H = if s0 = 0 then rn 186 70 [l0, l1, l2, l3] [] H else rn 186 88 [l0, l1, l2, l3] [] H := (rn_ev ..).trans (ev_bin rfl)
theorem x186_70 (l1 l2 l3 : Value) (l0 : Nat) (H : HS) : rn 186 70 [.ref l0, l1, l2, l3] [] H = rn 186 71 [.ref l0, l1, l2, l3] [.ref l0] H := rn_nx rfl
theorem x186_71 (l1 l2 l3 : Value) (l0 : Nat) (s0 : Nat) (H : HS) : rn 186 71 [.ref l0, l1, l2, l3] [.ref s0] H = rn 186 72 [.ref l0, l1, l2, l3] [.ref l0, .ref s0] H := rn_nx rfl
theorem x186_72 (l0 l1 l2 l3 : Value) (s0 : Nat) (s1 : Nat) (H : HS) : rn 186 72 [l0, l1, l2, l3] [.ref s0, .ref s1] H = gk 186 75 [l0, l1, l2, l3] [.ref s1] H (gfd H 5 0 s0) := (rn_ev ..).trans (ev_gk rfl)
theorem x186_75 (l0 l1 l2 : Value) (l3 : Int32) (s0 : Nat) (s1 : Nat) (H : HS) : rn 186 75 [l0, l1, l2, .int l3] [.ref s0, .ref s1] H = rn 186 76 [l0, l1, l2, .int l3] [.int l3, .ref s0, .ref s1] H := rn_nx rfl
theorem x186_76 (l0 l1 l2 l3 : Value) (s0 : Int32) (s1 : Nat) (s2 : Nat) (H : HS) : rn 186 76 [l0, l1, l2, l3] [.int s0, .ref s1, .ref s2] H = gk 186 77 [l0, l1, l2, l3] [.ref s2] H (ald H 100 s1 s0) := (rn_ev ..).trans (ev_gk rfl)
theorem x186_77 (l0 l1 l2 l3 : Value) (s0 : Int32) (s1 : Nat) (H : HS) (h : recv H s1 5 = true) : rn 186 77 [l0, l1, l2, l3] [.int s0, .ref s1] H = bnd true 186 77 [l0, l1, l2, l3] [] (rcal 179 [.ref s1, .int s0] H) := rn_cal (vcal h rfl)
theorem x186_80 (l0 l1 l2 l3 : Value) (s0 : Int32) (H : HS) : rn 186 80 [l0, l1, l2, l3] [.int s0] H = if s0 = 0 then rn 186 83 [l0, l1, l2, l3] [] H else rn 186 88 [l0, l1, l2, l3] [] H := (rn_ev ..).trans (ev_bin rfl)
theorem x186_83 (l1 l2 l3 : Value) (l0 : Nat) (H : HS) : rn 186 83 [.ref l0, l1, l2, l3] [] H = rn 186 84 [.ref l0, l1, l2, l3] [.ref l0] H := rn_nx rfl
theorem x186_84 (l0 l1 l3 : Value) (l2 : Int32) (s0 : Nat) (H : HS) : rn 186 84 [l0, l1, .int l2, l3] [.ref s0] H = rn 186 85 [l0, l1, .int l2, l3] [.int l2, .ref s0] H := rn_nx rfl
theorem x186_85 (l0 l1 l2 l3 : Value) (s0 : Int32) (s1 : Nat) (H : HS) (h : recv H s1 5 = true) : rn 186 85 [l0, l1, l2, l3] [.int s0, .ref s1] H = bnd true 186 85 [l0, l1, l2, l3] [] (rcal 184 [.ref s1, .int s0] H) := rn_cal (vcal h rfl)
theorem x186_88 (l0 l2 l3 : Value) (l1 : Int32) (H : HS) : rn 186 88 [l0, .int l1, l2, l3] [] H = rn 186 91 [(kl l0), .int (l1 + 1), l2, l3] [] H := rn_nx rfl
theorem x186_91 (l0 l1 l2 l3 : Value) (H : HS) : rn 186 91 [l0, l1, l2, l3] [] H = rn 186 25 [l0, l1, l2, l3] [] H := rn_nx rfl
theorem x186_94 (l0 l1 l2 l3 : Value) (H : HS) : rn 186 94 [l0, l1, l2, l3] [] H = some (.inl none, H) := rn_end rfl
theorem c186 (a0 : Nat) (H : HS) : rcal 186 [.ref a0] H = rn 186 0 [.ref a0, un, un, un] [] H := rfl
theorem x187_0 (l0 l2 l3 : Value) (l1 : Int32) (H : HS) : rn 187 0 [l0, .int l1, l2, l3] [] H = rn 187 1 [l0, .int l1, l2, l3] [.int l1] H := rn_nx rfl
theorem x187_1 (l0 l1 l2 l3 : Value) (s0 : Int32) (H : HS) : rn 187 1 [l0, l1, l2, l3] [.int s0] H = rn 187 2 [l0, l1, l2, l3] [.long s0.toInt64] H := rn_nx rfl
theorem x187_2 (l0 l1 l2 l3 : Value) (s0 : Int64) (H : HS) : rn 187 2 [l0, l1, l2, l3] [.long s0] H = rn 187 3 [l0, l1, l2, l3] [.long 1, .long s0] H := rn_nx rfl
theorem x187_3 (l0 l1 l2 l3 : Value) (s0 : Int64) (s1 : Int64) (H : HS) : rn 187 3 [l0, l1, l2, l3] [.long s0, .long s1] H = rn 187 6 [l0, l1, l2, l3] [.long 60, .long s0, .long s1] H := rn_nx rfl
theorem x187_6 (l0 l1 l2 l3 : Value) (s0 : Int64) (s1 : Int64) (s2 : Int64) (H : HS) : rn 187 6 [l0, l1, l2, l3] [.long s0, .long s1, .long s2] H = bnd true 187 6 [l0, l1, l2, l3] [] (rcal 151 [.long s2, .long s1, .long s0] H) := rn_cal rfl
theorem x187_9 (l0 l1 l2 l3 : Value) (s0 : Int32) (H : HS) : rn 187 9 [l0, l1, l2, l3] [.int s0] H = if s0 = 0 then rn 187 12 [l0, l1, l2, l3] [] H else rn 187 18 [l0, l1, l2, l3] [] H := (rn_ev ..).trans (ev_bin rfl)
theorem x187_12 (l1 l2 l3 : Value) (l0 : Nat) (H : HS) : rn 187 12 [.ref l0, l1, l2, l3] [] H = rn 187 13 [.ref l0, l1, l2, l3] [.ref l0] H := rn_nx rfl
theorem x187_13 (l0 l1 l2 l3 : Value) (s0 : Nat) (H : HS) : rn 187 13 [l0, l1, l2, l3] [.ref s0] H = rn 187 14 [l0, l1, l2, l3] [.int 1, .ref s0] H := rn_nx rfl
theorem x187_14 (l0 l1 l2 l3 : Value) (s0 : Int32) (s1 : Nat) (H : HS) (h : recv H s1 5 = true) : rn 187 14 [l0, l1, l2, l3] [.int s0, .ref s1] H = bnd true 187 14 [l0, l1, l2, l3] [] (rcal 150 [.ref s1, .int s0] H) := rn_cal (vcal h rfl)
theorem x187_17 (l0 l1 l2 l3 : Value) (s0 : Int32) (H : HS) : rn 187 17 [l0, l1, l2, l3] [.int s0] H = some (.inl (some (.int s0)), H) := rn_end rfl
theorem x187_18 (l1 l2 l3 : Value) (l0 : Nat) (H : HS) : rn 187 18 [.ref l0, l1, l2, l3] [] H = rn 187 19 [.ref l0, l1, l2, l3] [.ref l0] H := rn_nx rfl
theorem x187_19 (l0 l1 l2 l3 : Value) (s0 : Nat) (H : HS) : rn 187 19 [l0, l1, l2, l3] [.ref s0] H = gk 187 22 [l0, l1, l2, l3] [] H (gfd H 5 0 s0) := (rn_ev ..).trans (ev_gk rfl)
theorem x187_22 (l0 l1 l2 l3 : Value) (s0 : Nat) (H : HS) : rn 187 22 [l0, l1, l2, l3] [.ref s0] H = rn 187 23 [l0, l1, l2, l3] [.int 4, .ref s0] H := rn_nx rfl
theorem x187_23 (l0 l1 l2 l3 : Value) (s0 : Int32) (s1 : Nat) (H : HS) : rn 187 23 [l0, l1, l2, l3] [.int s0, .ref s1] H = gk 187 24 [l0, l1, l2, l3] [] H (ald H 100 s1 s0) := (rn_ev ..).trans (ev_gk rfl)
theorem x187_24 (l0 l1 l2 l3 : Value) (s0 : Int32) (H : HS) : rn 187 24 [l0, l1, l2, l3] [.int s0] H = rn 187 25 [l0, (kl l1), .int s0, l3] [] H := rn_nx rfl
theorem x187_25 (l0 l1 l2 l3 : Value) (H : HS) : rn 187 25 [l0, l1, l2, l3] [] H = rn 187 26 [l0, l1, l2, l3] [.int 0] H := rn_nx rfl
theorem x187_26 (l0 l1 l2 l3 : Value) (s0 : Int32) (H : HS) : rn 187 26 [l0, l1, l2, l3] [.int s0] H = rn 187 27 [l0, l1, (kl l2), .int s0] [] H := rn_nx rfl
theorem x187_27 (l0 l1 l2 : Value) (l3 : Int32) (H : HS) : rn 187 27 [l0, l1, l2, .int l3] [] H = rn 187 28 [l0, l1, l2, .int l3] [.int l3] H := rn_nx rfl
theorem x187_28 (l0 l2 l3 : Value) (l1 : Int32) (s0 : Int32) (H : HS) : rn 187 28 [l0, .int l1, l2, l3] [.int s0] H = rn 187 29 [l0, .int l1, l2, l3] [.int l1, .int s0] H := rn_nx rfl
theorem x187_29 (l0 l1 l2 l3 : Value) (s0 : Int32) (s1 : Int32) (H : HS) : rn 187 29 [l0, l1, l2, l3] [.int s0, .int s1] H = if s1 < s0 then rn 187 32 [l0, l1, l2, l3] [] H else rn 187 42 [l0, l1, l2, l3] [] H := (rn_ev ..).trans (ev_bin rfl)
theorem x187_32 (l1 l2 l3 : Value) (l0 : Nat) (H : HS) : rn 187 32 [.ref l0, l1, l2, l3] [] H = rn 187 33 [.ref l0, l1, l2, l3] [.ref l0] H := rn_nx rfl
theorem x187_33 (l0 l1 l2 l3 : Value) (s0 : Nat) (H : HS) (h : recv H s0 5 = true) : rn 187 33 [l0, l1, l2, l3] [.ref s0] H = bnd true 187 33 [l0, l1, l2, l3] [] (rcal 186 [.ref s0] H) := rn_cal (vcal h rfl)
theorem x187_36 (l0 l1 l2 : Value) (l3 : Int32) (H : HS) : rn 187 36 [l0, l1, l2, .int l3] [] H = rn 187 39 [l0, l1, (kl l2), .int (l3 + 1)] [] H := rn_nx rfl
theorem x187_39 (l0 l1 l2 l3 : Value) (H : HS) : rn 187 39 [l0, l1, l2, l3] [] H = rn 187 27 [l0, l1, l2, l3] [] H := rn_nx rfl
theorem x187_42 (l1 l2 l3 : Value) (l0 : Nat) (H : HS) : rn 187 42 [.ref l0, l1, l2, l3] [] H = rn 187 43 [.ref l0, l1, l2, l3] [.ref l0] H := rn_nx rfl
theorem x187_43 (l0 l1 l2 l3 : Value) (s0 : Nat) (H : HS) : rn 187 43 [l0, l1, l2, l3] [.ref s0] H = gk 187 46 [l0, l1, l2, l3] [] H (gfd H 5 0 s0) := (rn_ev ..).trans (ev_gk rfl)
theorem x187_46 (l0 l1 l2 l3 : Value) (s0 : Nat) (H : HS) : rn 187 46 [l0, l1, l2, l3] [.ref s0] H = rn 187 47 [l0, l1, l2, l3] [.int 4, .ref s0] H := rn_nx rfl
theorem x187_47 (l0 l1 l2 l3 : Value) (s0 : Int32) (s1 : Nat) (H : HS) : rn 187 47 [l0, l1, l2, l3] [.int s0, .ref s1] H = gk 187 48 [l0, l1, l2, l3] [] H (ald H 100 s1 s0) := (rn_ev ..).trans (ev_gk rfl)
theorem x187_48 (l0 l1 l3 : Value) (l2 : Int32) (s0 : Int32) (H : HS) : rn 187 48 [l0, l1, .int l2, l3] [.int s0] H = rn 187 49 [l0, l1, .int l2, l3] [.int l2, .int s0] H := rn_nx rfl
theorem x187_49 (l0 l1 l2 l3 : Value) (s0 : Int32) (s1 : Int32) (H : HS) : rn 187 49 [l0, l1, l2, l3] [.int s0, .int s1] H = rn 187 50 [l0, l1, l2, l3] [.int (s1 - s0)] H := rn_nx rfl
theorem x187_50 (l0 l1 l2 l3 : Value) (s0 : Int32) (H : HS) : rn 187 50 [l0, l1, l2, l3] [.int s0] H = some (.inl (some (.int s0)), H) := rn_end rfl
theorem c187 (a0 : Nat) (a1 : Int32) (H : HS) : rcal 187 [.ref a0, .int a1] H = rn 187 0 [.ref a0, .int a1, un, un] [] H := rfl
theorem x188_0 (l1 : Value) (l0 : Nat) (H : HS) : rn 188 0 [.ref l0, l1] [] H = rn 188 1 [.ref l0, l1] [.ref l0] H := rn_nx rfl
theorem x188_1 (l0 l1 : Value) (s0 : Nat) (H : HS) (h : recv H s0 5 = true) : rn 188 1 [l0, l1] [.ref s0] H = bnd true 188 1 [l0, l1] [] (rcal 152 [.ref s0] H) := rn_cal (vcal h rfl)
theorem x188_4 (l1 : Value) (l0 : Nat) (H : HS) : rn 188 4 [.ref l0, l1] [] H = rn 188 5 [.ref l0, l1] [.ref l0] H := rn_nx rfl
theorem x188_5 (l1 : Value) (l0 : Nat) (s0 : Nat) (H : HS) : rn 188 5 [.ref l0, l1] [.ref s0] H = rn 188 6 [.ref l0, l1] [.ref l0, .ref s0] H := rn_nx rfl
theorem x188_6 (l0 : Value) (l1 : Int32) (s0 : Nat) (s1 : Nat) (H : HS) : rn 188 6 [l0, .int l1] [.ref s0, .ref s1] H = rn 188 7 [l0, .int l1] [.int l1, .ref s0, .ref s1] H := rn_nx rfl
theorem x188_7 (l0 l1 : Value) (s0 : Int32) (s1 : Nat) (s2 : Nat) (H : HS) (h : recv H s1 5 = true) : rn 188 7 [l0, l1] [.int s0, .ref s1, .ref s2] H = bnd true 188 7 [l0, l1] [.ref s2] (rcal 187 [.ref s1, .int s0] H) := rn_cal (vcal h rfl)
theorem x188_10 (l0 l1 : Value) (s0 : Int32) (s1 : Nat) (H : HS) (h : recv H s1 5 = true) : rn 188 10 [l0, l1] [.int s0, .ref s1] H = bnd true 188 10 [l0, l1] [] (rcal 153 [.ref s1, .int s0] H) := rn_cal (vcal h rfl)
theorem x188_13 (l0 l1 : Value) (s0 : Int32) (H : HS) : rn 188 13 [l0, l1] [.int s0] H = some (.inl (some (.int s0)), H) := rn_end rfl
theorem c188 (a0 : Nat) (a1 : Int32) (H : HS) : rcal 188 [.ref a0, .int a1] H = rn 188 0 [.ref a0, .int a1] [] H := rfl
theorem x189_0 (l1 : Value) (l0 : Nat) (H : HS) : rn 189 0 [.ref l0, l1] [] H = rn 189 1 [.ref l0, l1] [.ref l0] H := rn_nx rfl
theorem x189_1 (l0 l1 : Value) (s0 : Nat) (H : HS) : rn 189 1 [l0, l1] [.ref s0] H = rn 189 2 [l0, l1] [.int 0, .ref s0] H := rn_nx rfl
theorem x189_2 (l0 l1 : Value) (s0 : Int32) (s1 : Nat) (H : HS) : rn 189 2 [l0, l1] [.int s0, .ref s1] H = pk 189 5 [l0, l1] [] (pfd H true 5 9 s1 (.int s0)) := (rn_ev ..).trans (ev_pk rfl)
theorem x189_5 (l1 : Value) (l0 : Nat) (H : HS) : rn 189 5 [.ref l0, l1] [] H = rn 189 6 [.ref l0, l1] [.ref l0] H := rn_nx rfl
theorem x189_6 (l0 l1 : Value) (s0 : Nat) (H : HS) : rn 189 6 [l0, l1] [.ref s0] H = gk 189 9 [l0, l1] [] H (gfd H 5 0 s0) := (rn_ev ..).trans (ev_gk rfl)
theorem x189_9 (l0 : Value) (l1 : Int32) (s0 : Nat) (H : HS) : rn 189 9 [l0, .int l1] [.ref s0] H = rn 189 10 [l0, .int l1] [.int l1, .ref s0] H := rn_nx rfl
theorem x189_10 (l0 l1 : Value) (s0 : Int32) (s1 : Nat) (H : HS) : rn 189 10 [l0, l1] [.int s0, .ref s1] H = gk 189 11 [l0, l1] [] H (ald H 100 s1 s0) := (rn_ev ..).trans (ev_gk rfl)
theorem x189_11 (l0 l1 : Value) (s0 : Int32) (H : HS) : rn 189 11 [l0, l1] [.int s0] H = some (.inl (some (.int s0)), H) := rn_end rfl
theorem c189 (a0 : Nat) (a1 : Int32) (H : HS) : rcal 189 [.ref a0, .int a1] H = rn 189 0 [.ref a0, .int a1] [] H := rfl
theorem x190_0 (l0 : Nat) (H : HS) : rn 190 0 [.ref l0] [] H = rn 190 1 [.ref l0] [.ref l0] H := rn_nx rfl
theorem x190_1 (l0 : Value) (s0 : Nat) (H : HS) : rn 190 1 [l0] [.ref s0] H = rn 190 2 [l0] [.int 0, .ref s0] H := rn_nx rfl
theorem x190_2 (l0 : Value) (s0 : Int32) (s1 : Nat) (H : HS) (h : recv H s1 5 = true) : rn 190 2 [l0] [.int s0, .ref s1] H = bnd true 190 2 [l0] [] (rcal 189 [.ref s1, .int s0] H) := rn_cal (vcal h rfl)
theorem x190_5 (l0 : Value) (s0 : Int32) (H : HS) : rn 190 5 [l0] [.int s0] H = some (.inl (some (.int s0)), H) := rn_end rfl
theorem c190 (a0 : Nat) (H : HS) : rcal 190 [.ref a0] H = rn 190 0 [.ref a0] [] H := rfl
theorem x191_0 (l1 : Value) (l0 : Nat) (H : HS) : rn 191 0 [.ref l0, l1] [] H = rn 191 1 [.ref l0, l1] [.ref l0] H := rn_nx rfl
theorem x191_1 (l0 l1 : Value) (s0 : Nat) (H : HS) : rn 191 1 [l0, l1] [.ref s0] H = rn 191 2 [l0, l1] [.int 0, .ref s0] H := rn_nx rfl
theorem x191_2 (l0 l1 : Value) (s0 : Int32) (s1 : Nat) (H : HS) : rn 191 2 [l0, l1] [.int s0, .ref s1] H = pk 191 5 [l0, l1] [] (pfd H true 5 9 s1 (.int s0)) := (rn_ev ..).trans (ev_pk rfl)
theorem x191_5 (l1 : Value) (l0 : Nat) (H : HS) : rn 191 5 [.ref l0, l1] [] H = rn 191 6 [.ref l0, l1] [.ref l0] H := rn_nx rfl
theorem x191_6 (l0 : Value) (l1 : Int32) (s0 : Nat) (H : HS) : rn 191 6 [l0, .int l1] [.ref s0] H = rn 191 7 [l0, .int l1] [.int l1, .ref s0] H := rn_nx rfl
theorem x191_7 (l0 l1 : Value) (s0 : Int32) (s1 : Nat) (H : HS) (h : recv H s1 5 = true) : rn 191 7 [l0, l1] [.int s0, .ref s1] H = bnd true 191 7 [l0, l1] [] (rcal 155 [.ref s1, .int s0] H) := rn_cal (vcal h rfl)
theorem x191_10 (l0 l1 : Value) (s0 : Int32) (H : HS) : rn 191 10 [l0, l1] [.int s0] H = if s0 = 0 then rn 191 25 [l0, l1] [] H else rn 191 13 [l0, l1] [] H := (rn_ev ..).trans (ev_bif rfl)
theorem x191_13 (l1 : Value) (l0 : Nat) (H : HS) : rn 191 13 [.ref l0, l1] [] H = rn 191 14 [.ref l0, l1] [.ref l0] H := rn_nx rfl
theorem x191_14 (l0 l1 : Value) (s0 : Nat) (H : HS) : rn 191 14 [l0, l1] [.ref s0] H = gk 191 17 [l0, l1] [] H (gfd H 5 0 s0) := (rn_ev ..).trans (ev_gk rfl)
theorem x191_17 (l0 l1 : Value) (s0 : Nat) (H : HS) : rn 191 17 [l0, l1] [.ref s0] H = rn 191 19 [l0, l1] [.int 9, .ref s0] H := rn_nx rfl
theorem x191_19 (l0 : Value) (l1 : Int32) (s0 : Int32) (s1 : Nat) (H : HS) : rn 191 19 [l0, .int l1] [.int s0, .ref s1] H = rn 191 20 [l0, .int l1] [.int l1, .int s0, .ref s1] H := rn_nx rfl
theorem x191_20 (l0 l1 : Value) (s0 : Int32) (s1 : Int32) (s2 : Nat) (H : HS) : rn 191 20 [l0, l1] [.int s0, .int s1, .ref s2] H = rn 191 21 [l0, l1] [.int (s1 + s0), .ref s2] H := rn_nx rfl
theorem x191_21 (l0 l1 : Value) (s0 : Int32) (s1 : Nat) (H : HS) : rn 191 21 [l0, l1] [.int s0, .ref s1] H = gk 191 22 [l0, l1] [] H (ald H 100 s1 s0) := (rn_ev ..).trans (ev_gk rfl)
theorem x191_22 (l0 l1 : Value) (s0 : Int32) (H : HS) : rn 191 22 [l0, l1] [.int s0] H = rn 191 30 [l0, l1] [.int s0] H := rn_nx rfl
theorem x191_30 (l0 l1 : Value) (s0 : Int32) (H : HS) : rn 191 30 [l0, l1] [.int s0] H = some (.inl (some (.int s0)), H) := rn_end rfl
theorem x191_25 (l1 : Value) (l0 : Nat) (H : HS) : rn 191 25 [.ref l0, l1] [] H = rn 191 26 [.ref l0, l1] [.ref l0] H := rn_nx rfl
theorem x191_26 (l0 l1 : Value) (s0 : Nat) (H : HS) : rn 191 26 [l0, l1] [.ref s0] H = rn 191 27 [l0, l1] [.int 1, .ref s0] H := rn_nx rfl
theorem x191_27 (l0 l1 : Value) (s0 : Int32) (s1 : Nat) (H : HS) (h : recv H s1 5 = true) : rn 191 27 [l0, l1] [.int s0, .ref s1] H = bnd true 191 27 [l0, l1] [] (rcal 150 [.ref s1, .int s0] H) := rn_cal (vcal h rfl)
theorem c191 (a0 : Nat) (a1 : Int32) (H : HS) : rcal 191 [.ref a0, .int a1] H = rn 191 0 [.ref a0, .int a1] [] H := rfl
theorem x192_0 (l1 : Value) (l0 : Nat) (H : HS) : rn 192 0 [.ref l0, l1] [] H = rn 192 1 [.ref l0, l1] [.ref l0] H := rn_nx rfl
theorem x192_1 (l0 l1 : Value) (s0 : Nat) (H : HS) : rn 192 1 [l0, l1] [.ref s0] H = rn 192 2 [l0, l1] [.int 0, .ref s0] H := rn_nx rfl
theorem x192_2 (l0 l1 : Value) (s0 : Int32) (s1 : Nat) (H : HS) : rn 192 2 [l0, l1] [.int s0, .ref s1] H = pk 192 5 [l0, l1] [] (pfd H true 5 9 s1 (.int s0)) := (rn_ev ..).trans (ev_pk rfl)
theorem x192_5 (l1 : Value) (l0 : Nat) (H : HS) : rn 192 5 [.ref l0, l1] [] H = rn 192 6 [.ref l0, l1] [.ref l0] H := rn_nx rfl
theorem x192_6 (l0 : Value) (l1 : Int32) (s0 : Nat) (H : HS) : rn 192 6 [l0, .int l1] [.ref s0] H = rn 192 7 [l0, .int l1] [.int l1, .ref s0] H := rn_nx rfl
theorem x192_7 (l0 l1 : Value) (s0 : Int32) (s1 : Nat) (H : HS) (h : recv H s1 5 = true) : rn 192 7 [l0, l1] [.int s0, .ref s1] H = bnd true 192 7 [l0, l1] [] (rcal 155 [.ref s1, .int s0] H) := rn_cal (vcal h rfl)
theorem x192_10 (l0 l1 : Value) (s0 : Int32) (H : HS) : rn 192 10 [l0, l1] [.int s0] H = if s0 = 0 then rn 192 21 [l0, l1] [] H else rn 192 13 [l0, l1] [] H := (rn_ev ..).trans (ev_bif rfl)
theorem x192_13 (l1 : Value) (l0 : Nat) (H : HS) : rn 192 13 [.ref l0, l1] [] H = rn 192 14 [.ref l0, l1] [.ref l0] H := rn_nx rfl
theorem x192_14 (l0 : Value) (l1 : Int32) (s0 : Nat) (H : HS) : rn 192 14 [l0, .int l1] [.ref s0] H = rn 192 15 [l0, .int l1] [.int l1, .ref s0] H := rn_nx rfl
theorem x192_15 (l0 l1 : Value) (s0 : Int32) (s1 : Nat) (H : HS) (h : recv H s1 5 = true) : rn 192 15 [l0, l1] [.int s0, .ref s1] H = bnd true 192 15 [l0, l1] [] (rcal 163 [.ref s1, .int s0] H) := rn_cal (vcal h rfl)
theorem x192_18 (l0 l1 : Value) (s0 : Int32) (H : HS) : rn 192 18 [l0, l1] [.int s0] H = rn 192 26 [l0, l1] [.int s0] H := rn_nx rfl
theorem x192_26 (l0 l1 : Value) (s0 : Int32) (H : HS) : rn 192 26 [l0, l1] [.int s0] H = some (.inl (some (.int s0)), H) := rn_end rfl
theorem x192_21 (l1 : Value) (l0 : Nat) (H : HS) : rn 192 21 [.ref l0, l1] [] H = rn 192 22 [.ref l0, l1] [.ref l0] H := rn_nx rfl
theorem x192_22 (l0 l1 : Value) (s0 : Nat) (H : HS) : rn 192 22 [l0, l1] [.ref s0] H = rn 192 23 [l0, l1] [.int 1, .ref s0] H := rn_nx rfl
theorem x192_23 (l0 l1 : Value) (s0 : Int32) (s1 : Nat) (H : HS) (h : recv H s1 5 = true) : rn 192 23 [l0, l1] [.int s0, .ref s1] H = bnd true 192 23 [l0, l1] [] (rcal 150 [.ref s1, .int s0] H) := rn_cal (vcal h rfl)
theorem c192 (a0 : Nat) (a1 : Int32) (H : HS) : rcal 192 [.ref a0, .int a1] H = rn 192 0 [.ref a0, .int a1] [] H := rfl
theorem x193_0 (l1 : Value) (l0 : Nat) (H : HS) : rn 193 0 [.ref l0, l1] [] H = rn 193 1 [.ref l0, l1] [.ref l0] H := rn_nx rfl
theorem x193_1 (l0 l1 : Value) (s0 : Nat) (H : HS) : rn 193 1 [l0, l1] [.ref s0] H = rn 193 2 [l0, l1] [.int 0, .ref s0] H := rn_nx rfl
theorem x193_2 (l0 l1 : Value) (s0 : Int32) (s1 : Nat) (H : HS) : rn 193 2 [l0, l1] [.int s0, .ref s1] H = pk 193 5 [l0, l1] [] (pfd H true 5 9 s1 (.int s0)) := (rn_ev ..).trans (ev_pk rfl)
theorem x193_5 (l1 : Value) (l0 : Nat) (H : HS) : rn 193 5 [.ref l0, l1] [] H = rn 193 6 [.ref l0, l1] [.ref l0] H := rn_nx rfl
theorem x193_6 (l0 : Value) (l1 : Int32) (s0 : Nat) (H : HS) : rn 193 6 [l0, .int l1] [.ref s0] H = rn 193 7 [l0, .int l1] [.int l1, .ref s0] H := rn_nx rfl
theorem x193_7 (l0 l1 : Value) (s0 : Int32) (s1 : Nat) (H : HS) (h : recv H s1 5 = true) : rn 193 7 [l0, l1] [.int s0, .ref s1] H = bnd true 193 7 [l0, l1] [] (rcal 155 [.ref s1, .int s0] H) := rn_cal (vcal h rfl)
theorem x193_10 (l0 l1 : Value) (s0 : Int32) (H : HS) : rn 193 10 [l0, l1] [.int s0] H = if s0 = 0 then rn 193 21 [l0, l1] [] H else rn 193 13 [l0, l1] [] H := (rn_ev ..).trans (ev_bif rfl)
theorem x193_13 (l1 : Value) (l0 : Nat) (H : HS) : rn 193 13 [.ref l0, l1] [] H = rn 193 14 [.ref l0, l1] [.ref l0] H := rn_nx rfl
theorem x193_14 (l0 : Value) (l1 : Int32) (s0 : Nat) (H : HS) : rn 193 14 [l0, .int l1] [.ref s0] H = rn 193 15 [l0, .int l1] [.int l1, .ref s0] H := rn_nx rfl
theorem x193_15 (l0 l1 : Value) (s0 : Int32) (s1 : Nat) (H : HS) (h : recv H s1 5 = true) : rn 193 15 [l0, l1] [.int s0, .ref s1] H = bnd true 193 15 [l0, l1] [] (rcal 161 [.ref s1, .int s0] H) := rn_cal (vcal h rfl)
theorem x193_18 (l0 l1 : Value) (s0 : Int32) (H : HS) : rn 193 18 [l0, l1] [.int s0] H = rn 193 26 [l0, l1] [.int s0] H := rn_nx rfl
theorem x193_26 (l0 l1 : Value) (s0 : Int32) (H : HS) : rn 193 26 [l0, l1] [.int s0] H = some (.inl (some (.int s0)), H) := rn_end rfl
theorem x193_21 (l1 : Value) (l0 : Nat) (H : HS) : rn 193 21 [.ref l0, l1] [] H = rn 193 22 [.ref l0, l1] [.ref l0] H := rn_nx rfl
theorem x193_22 (l0 l1 : Value) (s0 : Nat) (H : HS) : rn 193 22 [l0, l1] [.ref s0] H = rn 193 23 [l0, l1] [.int 1, .ref s0] H := rn_nx rfl
theorem x193_23 (l0 l1 : Value) (s0 : Int32) (s1 : Nat) (H : HS) (h : recv H s1 5 = true) : rn 193 23 [l0, l1] [.int s0, .ref s1] H = bnd true 193 23 [l0, l1] [] (rcal 150 [.ref s1, .int s0] H) := rn_cal (vcal h rfl)
theorem c193 (a0 : Nat) (a1 : Int32) (H : HS) : rcal 193 [.ref a0, .int a1] H = rn 193 0 [.ref a0, .int a1] [] H := rfl
theorem x194_0 (l1 : Value) (l0 : Nat) (H : HS) : rn 194 0 [.ref l0, l1] [] H = rn 194 1 [.ref l0, l1] [.ref l0] H := rn_nx rfl
theorem x194_1 (l0 l1 : Value) (s0 : Nat) (H : HS) : rn 194 1 [l0, l1] [.ref s0] H = rn 194 2 [l0, l1] [.int 0, .ref s0] H := rn_nx rfl
theorem x194_2 (l0 l1 : Value) (s0 : Int32) (s1 : Nat) (H : HS) : rn 194 2 [l0, l1] [.int s0, .ref s1] H = pk 194 5 [l0, l1] [] (pfd H true 5 9 s1 (.int s0)) := (rn_ev ..).trans (ev_pk rfl)
theorem x194_5 (l1 : Value) (l0 : Nat) (H : HS) : rn 194 5 [.ref l0, l1] [] H = rn 194 6 [.ref l0, l1] [.ref l0] H := rn_nx rfl
theorem x194_6 (l0 : Value) (l1 : Int32) (s0 : Nat) (H : HS) : rn 194 6 [l0, .int l1] [.ref s0] H = rn 194 7 [l0, .int l1] [.int l1, .ref s0] H := rn_nx rfl
theorem x194_7 (l0 l1 : Value) (s0 : Int32) (s1 : Nat) (H : HS) (h : recv H s1 5 = true) : rn 194 7 [l0, l1] [.int s0, .ref s1] H = bnd true 194 7 [l0, l1] [] (rcal 156 [.ref s1, .int s0] H) := rn_cal (vcal h rfl)
theorem x194_10 (l0 l1 : Value) (s0 : Int32) (H : HS) : rn 194 10 [l0, l1] [.int s0] H = if s0 = 0 then rn 194 25 [l0, l1] [] H else rn 194 13 [l0, l1] [] H := (rn_ev ..).trans (ev_bif rfl)
theorem x194_13 (l1 : Value) (l0 : Nat) (H : HS) : rn 194 13 [.ref l0, l1] [] H = rn 194 14 [.ref l0, l1] [.ref l0] H := rn_nx rfl
theorem x194_14 (l0 l1 : Value) (s0 : Nat) (H : HS) : rn 194 14 [l0, l1] [.ref s0] H = gk 194 17 [l0, l1] [] H (gfd H 5 0 s0) := (rn_ev ..).trans (ev_gk rfl)
theorem x194_17 (l0 l1 : Value) (s0 : Nat) (H : HS) : rn 194 17 [l0, l1] [.ref s0] H = rn 194 19 [l0, l1] [.int 16, .ref s0] H := rn_nx rfl
theorem x194_19 (l0 : Value) (l1 : Int32) (s0 : Int32) (s1 : Nat) (H : HS) : rn 194 19 [l0, .int l1] [.int s0, .ref s1] H = rn 194 20 [l0, .int l1] [.int l1, .int s0, .ref s1] H := rn_nx rfl
theorem x194_20 (l0 l1 : Value) (s0 : Int32) (s1 : Int32) (s2 : Nat) (H : HS) : rn 194 20 [l0, l1] [.int s0, .int s1, .ref s2] H = rn 194 21 [l0, l1] [.int (s1 + s0), .ref s2] H := rn_nx rfl
theorem x194_21 (l0 l1 : Value) (s0 : Int32) (s1 : Nat) (H : HS) : rn 194 21 [l0, l1] [.int s0, .ref s1] H = gk 194 22 [l0, l1] [] H (ald H 100 s1 s0) := (rn_ev ..).trans (ev_gk rfl)
theorem x194_22 (l0 l1 : Value) (s0 : Int32) (H : HS) : rn 194 22 [l0, l1] [.int s0] H = rn 194 30 [l0, l1] [.int s0] H := rn_nx rfl
theorem x194_30 (l0 l1 : Value) (s0 : Int32) (H : HS) : rn 194 30 [l0, l1] [.int s0] H = some (.inl (some (.int s0)), H) := rn_end rfl
theorem x194_25 (l1 : Value) (l0 : Nat) (H : HS) : rn 194 25 [.ref l0, l1] [] H = rn 194 26 [.ref l0, l1] [.ref l0] H := rn_nx rfl
theorem x194_26 (l0 l1 : Value) (s0 : Nat) (H : HS) : rn 194 26 [l0, l1] [.ref s0] H = rn 194 27 [l0, l1] [.int 1, .ref s0] H := rn_nx rfl
theorem x194_27 (l0 l1 : Value) (s0 : Int32) (s1 : Nat) (H : HS) (h : recv H s1 5 = true) : rn 194 27 [l0, l1] [.int s0, .ref s1] H = bnd true 194 27 [l0, l1] [] (rcal 150 [.ref s1, .int s0] H) := rn_cal (vcal h rfl)
theorem c194 (a0 : Nat) (a1 : Int32) (H : HS) : rcal 194 [.ref a0, .int a1] H = rn 194 0 [.ref a0, .int a1] [] H := rfl
theorem x195_0 (l1 : Value) (l0 : Nat) (H : HS) : rn 195 0 [.ref l0, l1] [] H = rn 195 1 [.ref l0, l1] [.ref l0] H := rn_nx rfl
theorem x195_1 (l0 l1 : Value) (s0 : Nat) (H : HS) : rn 195 1 [l0, l1] [.ref s0] H = rn 195 2 [l0, l1] [.int 0, .ref s0] H := rn_nx rfl
theorem x195_2 (l0 l1 : Value) (s0 : Int32) (s1 : Nat) (H : HS) : rn 195 2 [l0, l1] [.int s0, .ref s1] H = pk 195 5 [l0, l1] [] (pfd H true 5 9 s1 (.int s0)) := (rn_ev ..).trans (ev_pk rfl)
theorem x195_5 (l1 : Value) (l0 : Nat) (H : HS) : rn 195 5 [.ref l0, l1] [] H = rn 195 6 [.ref l0, l1] [.ref l0] H := rn_nx rfl
theorem x195_6 (l0 : Value) (l1 : Int32) (s0 : Nat) (H : HS) : rn 195 6 [l0, .int l1] [.ref s0] H = rn 195 7 [l0, .int l1] [.int l1, .ref s0] H := rn_nx rfl
theorem x195_7 (l0 l1 : Value) (s0 : Int32) (s1 : Nat) (H : HS) (h : recv H s1 5 = true) : rn 195 7 [l0, l1] [.int s0, .ref s1] H = bnd true 195 7 [l0, l1] [] (rcal 156 [.ref s1, .int s0] H) := rn_cal (vcal h rfl)
theorem x195_10 (l0 l1 : Value) (s0 : Int32) (H : HS) : rn 195 10 [l0, l1] [.int s0] H = if s0 = 0 then rn 195 13 [l0, l1] [] H else rn 195 21 [l0, l1] [] H := (rn_ev ..).trans (ev_bin rfl)
theorem x195_13 (l1 : Value) (l0 : Nat) (H : HS) : rn 195 13 [.ref l0, l1] [] H = rn 195 14 [.ref l0, l1] [.ref l0] H := rn_nx rfl
theorem x195_14 (l0 l1 : Value) (s0 : Nat) (H : HS) : rn 195 14 [l0, l1] [.ref s0] H = rn 195 15 [l0, l1] [.int 1, .ref s0] H := rn_nx rfl
theorem x195_15 (l0 l1 : Value) (s0 : Int32) (s1 : Nat) (H : HS) (h : recv H s1 5 = true) : rn 195 15 [l0, l1] [.int s0, .ref s1] H = bnd true 195 15 [l0, l1] [] (rcal 150 [.ref s1, .int s0] H) := rn_cal (vcal h rfl)
theorem x195_18 (l0 l1 : Value) (s0 : Int32) (H : HS) : rn 195 18 [l0, l1] [.int s0] H = rn 195 19 [l0, l1] [] H := rn_nx rfl
theorem x195_19 (l0 l1 : Value) (H : HS) : rn 195 19 [l0, l1] [] H = rn 195 20 [l0, l1] [.int 0] H := rn_nx rfl
theorem x195_20 (l0 l1 : Value) (s0 : Int32) (H : HS) : rn 195 20 [l0, l1] [.int s0] H = if fitp 1 (.int s0) = true then some (.inl (some (.int s0)), H) else none := (rn_ev ..).trans (ev_ret rfl)
theorem x195_21 (l1 : Value) (l0 : Nat) (H : HS) : rn 195 21 [.ref l0, l1] [] H = rn 195 22 [.ref l0, l1] [.ref l0] H := rn_nx rfl
theorem x195_22 (l0 : Value) (l1 : Int32) (s0 : Nat) (H : HS) : rn 195 22 [l0, .int l1] [.ref s0] H = rn 195 23 [l0, .int l1] [.int l1, .ref s0] H := rn_nx rfl
theorem x195_23 (l0 l1 : Value) (s0 : Int32) (s1 : Nat) (H : HS) (h : recv H s1 5 = true) : rn 195 23 [l0, l1] [.int s0, .ref s1] H = bnd true 195 23 [l0, l1] [] (rcal 160 [.ref s1, .int s0] H) := rn_cal (vcal h rfl)
theorem x195_26 (l0 l1 : Value) (s0 : Int32) (H : HS) : rn 195 26 [l0, l1] [.int s0] H = rn 195 27 [l0, l1] [.int (-1), .int s0] H := rn_nx rfl
theorem x195_27 (l0 l1 : Value) (s0 : Int32) (s1 : Int32) (H : HS) : rn 195 27 [l0, l1] [.int s0, .int s1] H = if s1 = s0 then rn 195 30 [l0, l1] [] H else rn 195 34 [l0, l1] [] H := (rn_ev ..).trans (ev_bin rfl)
theorem x195_30 (l0 l1 : Value) (H : HS) : rn 195 30 [l0, l1] [] H = rn 195 31 [l0, l1] [.int 1] H := rn_nx rfl
theorem x195_31 (l0 l1 : Value) (s0 : Int32) (H : HS) : rn 195 31 [l0, l1] [.int s0] H = rn 195 35 [l0, l1] [.int s0] H := rn_nx rfl
theorem x195_35 (l0 l1 : Value) (s0 : Int32) (H : HS) : rn 195 35 [l0, l1] [.int s0] H = if fitp 1 (.int s0) = true then some (.inl (some (.int s0)), H) else none := (rn_ev ..).trans (ev_ret rfl)
theorem x195_34 (l0 l1 : Value) (H : HS) : rn 195 34 [l0, l1] [] H = rn 195 35 [l0, l1] [.int 0] H := rn_nx rfl
theorem c195 (a0 : Nat) (a1 : Int32) (H : HS) : rcal 195 [.ref a0, .int a1] H = rn 195 0 [.ref a0, .int a1] [] H := rfl
theorem x196_0 (l1 : Value) (l0 : Nat) (H : HS) : rn 196 0 [.ref l0, l1] [] H = rn 196 1 [.ref l0, l1] [.ref l0] H := rn_nx rfl
theorem x196_1 (l0 l1 : Value) (s0 : Nat) (H : HS) : rn 196 1 [l0, l1] [.ref s0] H = rn 196 2 [l0, l1] [.int 0, .ref s0] H := rn_nx rfl
theorem x196_2 (l0 l1 : Value) (s0 : Int32) (s1 : Nat) (H : HS) : rn 196 2 [l0, l1] [.int s0, .ref s1] H = pk 196 5 [l0, l1] [] (pfd H true 5 9 s1 (.int s0)) := (rn_ev ..).trans (ev_pk rfl)
theorem x196_5 (l1 : Value) (l0 : Nat) (H : HS) : rn 196 5 [.ref l0, l1] [] H = rn 196 6 [.ref l0, l1] [.ref l0] H := rn_nx rfl
theorem x196_6 (l0 : Value) (l1 : Int32) (s0 : Nat) (H : HS) : rn 196 6 [l0, .int l1] [.ref s0] H = rn 196 7 [l0, .int l1] [.int l1, .ref s0] H := rn_nx rfl
theorem x196_7 (l0 l1 : Value) (s0 : Int32) (s1 : Nat) (H : HS) (h : recv H s1 5 = true) : rn 196 7 [l0, l1] [.int s0, .ref s1] H = bnd true 196 7 [l0, l1] [] (rcal 156 [.ref s1, .int s0] H) := rn_cal (vcal h rfl)
theorem x196_10 (l0 l1 : Value) (s0 : Int32) (H : HS) : rn 196 10 [l0, l1] [.int s0] H = if s0 = 0 then rn 196 13 [l0, l1] [] H else rn 196 19 [l0, l1] [] H := (rn_ev ..).trans (ev_bin rfl)
theorem x196_13 (l1 : Value) (l0 : Nat) (H : HS) : rn 196 13 [.ref l0, l1] [] H = rn 196 14 [.ref l0, l1] [.ref l0] H := rn_nx rfl
theorem x196_14 (l0 l1 : Value) (s0 : Nat) (H : HS) : rn 196 14 [l0, l1] [.ref s0] H = rn 196 15 [l0, l1] [.int 1, .ref s0] H := rn_nx rfl
theorem x196_15 (l0 l1 : Value) (s0 : Int32) (s1 : Nat) (H : HS) (h : recv H s1 5 = true) : rn 196 15 [l0, l1] [.int s0, .ref s1] H = bnd true 196 15 [l0, l1] [] (rcal 150 [.ref s1, .int s0] H) := rn_cal (vcal h rfl)
theorem x196_18 (l0 l1 : Value) (s0 : Int32) (H : HS) : rn 196 18 [l0, l1] [.int s0] H = some (.inl (some (.int s0)), H) := rn_end rfl
theorem x196_19 (l1 : Value) (l0 : Nat) (H : HS) : rn 196 19 [.ref l0, l1] [] H = rn 196 20 [.ref l0, l1] [.ref l0] H := rn_nx rfl
theorem x196_20 (l0 : Value) (l1 : Int32) (s0 : Nat) (H : HS) : rn 196 20 [l0, .int l1] [.ref s0] H = rn 196 21 [l0, .int l1] [.int l1, .ref s0] H := rn_nx rfl
theorem x196_21 (l0 l1 : Value) (s0 : Int32) (s1 : Nat) (H : HS) (h : recv H s1 5 = true) : rn 196 21 [l0, l1] [.int s0, .ref s1] H = bnd true 196 21 [l0, l1] [] (rcal 160 [.ref s1, .int s0] H) := rn_cal (vcal h rfl)
theorem x196_24 (l0 l1 : Value) (s0 : Int32) (H : HS) : rn 196 24 [l0, l1] [.int s0] H = rn 196 25 [l0, l1] [.int (-1), .int s0] H := rn_nx rfl
theorem x196_25 (l0 l1 : Value) (s0 : Int32) (s1 : Int32) (H : HS) : rn 196 25 [l0, l1] [.int s0, .int s1] H = if s1 = s0 then rn 196 28 [l0, l1] [] H else rn 196 36 [l0, l1] [] H := (rn_ev ..).trans (ev_bin rfl)
theorem x196_28 (l1 : Value) (l0 : Nat) (H : HS) : rn 196 28 [.ref l0, l1] [] H = rn 196 29 [.ref l0, l1] [.ref l0] H := rn_nx rfl
theorem x196_29 (l0 l1 : Value) (s0 : Nat) (H : HS) : rn 196 29 [l0, l1] [.ref s0] H = rn 196 30 [l0, l1] [.int 2, .ref s0] H := rn_nx rfl
theorem x196_30 (l0 l1 : Value) (s0 : Int32) (s1 : Nat) (H : HS) (h : recv H s1 5 = true) : rn 196 30 [l0, l1] [.int s0, .ref s1] H = bnd true 196 30 [l0, l1] [] (rcal 150 [.ref s1, .int s0] H) := rn_cal (vcal h rfl)
theorem x196_33 (l0 l1 : Value) (s0 : Int32) (H : HS) : rn 196 33 [l0, l1] [.int s0] H = rn 196 49 [l0, l1] [.int s0] H := rn_nx rfl
theorem x196_49 (l0 l1 : Value) (s0 : Int32) (H : HS) : rn 196 49 [l0, l1] [.int s0] H = some (.inl (some (.int s0)), H) := rn_end rfl
theorem x196_36 (l1 : Value) (l0 : Nat) (H : HS) : rn 196 36 [.ref l0, l1] [] H = rn 196 37 [.ref l0, l1] [.ref l0] H := rn_nx rfl
theorem x196_37 (l0 l1 : Value) (s0 : Nat) (H : HS) : rn 196 37 [l0, l1] [.ref s0] H = gk 196 40 [l0, l1] [] H (gfd H 5 0 s0) := (rn_ev ..).trans (ev_gk rfl)
theorem x196_40 (l1 : Value) (l0 : Nat) (s0 : Nat) (H : HS) : rn 196 40 [.ref l0, l1] [.ref s0] H = rn 196 41 [.ref l0, l1] [.ref l0, .ref s0] H := rn_nx rfl
theorem x196_41 (l0 : Value) (l1 : Int32) (s0 : Nat) (s1 : Nat) (H : HS) : rn 196 41 [l0, .int l1] [.ref s0, .ref s1] H = rn 196 42 [l0, .int l1] [.int l1, .ref s0, .ref s1] H := rn_nx rfl
theorem x196_42 (l0 l1 : Value) (s0 : Int32) (s1 : Nat) (s2 : Nat) (H : HS) (h : recv H s1 5 = true) : rn 196 42 [l0, l1] [.int s0, .ref s1, .ref s2] H = bnd true 196 42 [l0, l1] [.ref s2] (rcal 160 [.ref s1, .int s0] H) := rn_cal (vcal h rfl)
theorem x196_45 (l0 l1 : Value) (s0 : Int32) (s1 : Nat) (H : HS) : rn 196 45 [l0, l1] [.int s0, .ref s1] H = bnd true 196 45 [l0, l1] [.ref s1] (rcal 154 [.int s0] H) := rn_cal rfl
theorem x196_48 (l0 l1 : Value) (s0 : Int32) (s1 : Nat) (H : HS) : rn 196 48 [l0, l1] [.int s0, .ref s1] H = gk 196 49 [l0, l1] [] H (ald H 100 s1 s0) := (rn_ev ..).trans (ev_gk rfl)
theorem c196 (a0 : Nat) (a1 : Int32) (H : HS) : rcal 196 [.ref a0, .int a1] H = rn 196 0 [.ref a0, .int a1] [] H := rfl
theorem x197_0 (l1 l2 : Value) (l0 : Nat) (H : HS) : rn 197 0 [.ref l0, l1, l2] [] H = rn 197 1 [.ref l0, l1, l2] [.ref l0] H := rn_nx rfl
theorem x197_1 (l0 l1 l2 : Value) (s0 : Nat) (H : HS) : rn 197 1 [l0, l1, l2] [.ref s0] H = rn 197 2 [l0, l1, l2] [.int 0, .ref s0] H := rn_nx rfl
theorem x197_2 (l0 l1 l2 : Value) (s0 : Int32) (s1 : Nat) (H : HS) : rn 197 2 [l0, l1, l2] [.int s0, .ref s1] H = pk 197 5 [l0, l1, l2] [] (pfd H true 5 9 s1 (.int s0)) := (rn_ev ..).trans (ev_pk rfl)
theorem x197_5 (l1 l2 : Value) (l0 : Nat) (H : HS) : rn 197 5 [.ref l0, l1, l2] [] H = rn 197 6 [.ref l0, l1, l2] [.ref l0] H := rn_nx rfl
theorem x197_6 (l0 l2 : Value) (l1 : Int32) (s0 : Nat) (H : HS) : rn 197 6 [l0, .int l1, l2] [.ref s0] H = rn 197 7 [l0, .int l1, l2] [.int l1, .ref s0] H := rn_nx rfl
theorem x197_7 (l0 l1 l2 : Value) (s0 : Int32) (s1 : Nat) (H : HS) (h : recv H s1 5 = true) : rn 197 7 [l0, l1, l2] [.int s0, .ref s1] H = bnd true 197 7 [l0, l1, l2] [] (rcal 155 [.ref s1, .int s0] H) := rn_cal (vcal h rfl)
theorem x197_10 (l0 l1 l2 : Value) (s0 : Int32) (H : HS) : rn 197 10 [l0, l1, l2] [.int s0] H = if s0 = 0 then rn 197 30 [l0, l1, l2] [] H else rn 197 13 [l0, l1, l2] [] H := (rn_ev ..).trans (ev_bif rfl)
theorem x197_13 (l1 l2 : Value) (l0 : Nat) (H : HS) : rn 197 13 [.ref l0, l1, l2] [] H = rn 197 14 [.ref l0, l1, l2] [.ref l0] H := rn_nx rfl
theorem x197_14 (l0 l1 : Value) (l2 : Int32) (s0 : Nat) (H : HS) : rn 197 14 [l0, l1, .int l2] [.ref s0] H = rn 197 15 [l0, l1, .int l2] [.int l2, .ref s0] H := rn_nx rfl
theorem x197_15 (l0 l1 l2 : Value) (s0 : Int32) (s1 : Nat) (H : HS) (h : recv H s1 5 = true) : rn 197 15 [l0, l1, l2] [.int s0, .ref s1] H = bnd true 197 15 [l0, l1, l2] [] (rcal 155 [.ref s1, .int s0] H) := rn_cal (vcal h rfl)
theorem x197_18 (l0 l1 l2 : Value) (s0 : Int32) (H : HS) : rn 197 18 [l0, l1, l2] [.int s0] H = if s0 = 0 then rn 197 30 [l0, l1, l2] [] H else rn 197 21 [l0, l1, l2] [] H := (rn_ev ..).trans (ev_bif rfl)
theorem x197_21 (l1 l2 : Value) (l0 : Nat) (H : HS) : rn 197 21 [.ref l0, l1, l2] [] H = rn 197 22 [.ref l0, l1, l2] [.ref l0] H := rn_nx rfl
theorem x197_22 (l0 l2 : Value) (l1 : Int32) (s0 : Nat) (H : HS) : rn 197 22 [l0, .int l1, l2] [.ref s0] H = rn 197 23 [l0, .int l1, l2] [.int l1, .ref s0] H := rn_nx rfl
theorem x197_23 (l0 l1 : Value) (l2 : Int32) (s0 : Int32) (s1 : Nat) (H : HS) : rn 197 23 [l0, l1, .int l2] [.int s0, .ref s1] H = rn 197 24 [l0, l1, .int l2] [.int l2, .int s0, .ref s1] H := rn_nx rfl
theorem x197_24 (l0 l1 l2 : Value) (s0 : Int32) (s1 : Int32) (s2 : Nat) (H : HS) (h : recv H s2 5 = true) : rn 197 24 [l0, l1, l2] [.int s0, .int s1, .ref s2] H = bnd true 197 24 [l0, l1, l2] [] (rcal 164 [.ref s2, .int s1, .int s0] H) := rn_cal (vcal h rfl)
theorem x197_27 (l0 l1 l2 : Value) (s0 : Int32) (H : HS) : rn 197 27 [l0, l1, l2] [.int s0] H = rn 197 35 [l0, l1, l2] [.int s0] H := rn_nx rfl
theorem x197_35 (l0 l1 l2 : Value) (s0 : Int32) (H : HS) : rn 197 35 [l0, l1, l2] [.int s0] H = some (.inl (some (.int s0)), H) := rn_end rfl
theorem x197_30 (l1 l2 : Value) (l0 : Nat) (H : HS) : rn 197 30 [.ref l0, l1, l2] [] H = rn 197 31 [.ref l0, l1, l2] [.ref l0] H := rn_nx rfl
theorem x197_31 (l0 l1 l2 : Value) (s0 : Nat) (H : HS) : rn 197 31 [l0, l1, l2] [.ref s0] H = rn 197 32 [l0, l1, l2] [.int 1, .ref s0] H := rn_nx rfl
theorem x197_32 (l0 l1 l2 : Value) (s0 : Int32) (s1 : Nat) (H : HS) (h : recv H s1 5 = true) : rn 197 32 [l0, l1, l2] [.int s0, .ref s1] H = bnd true 197 32 [l0, l1, l2] [] (rcal 150 [.ref s1, .int s0] H) := rn_cal (vcal h rfl)
theorem c197 (a0 : Nat) (a1 : Int32) (a2 : Int32) (H : HS) : rcal 197 [.ref a0, .int a1, .int a2] H = rn 197 0 [.ref a0, .int a1, .int a2] [] H := rfl
theorem x198_0 (l1 l2 : Value) (l0 : Nat) (H : HS) : rn 198 0 [.ref l0, l1, l2] [] H = rn 198 1 [.ref l0, l1, l2] [.ref l0] H := rn_nx rfl
theorem x198_1 (l0 l2 : Value) (l1 : Int32) (s0 : Nat) (H : HS) : rn 198 1 [l0, .int l1, l2] [.ref s0] H = rn 198 2 [l0, .int l1, l2] [.int l1, .ref s0] H := rn_nx rfl
theorem x198_2 (l0 l1 : Value) (l2 : Int32) (s0 : Int32) (s1 : Nat) (H : HS) : rn 198 2 [l0, l1, .int l2] [.int s0, .ref s1] H = rn 198 3 [l0, l1, .int l2] [.int l2, .int s0, .ref s1] H := rn_nx rfl
theorem x198_3 (l0 l1 l2 : Value) (s0 : Int32) (s1 : Int32) (s2 : Nat) (H : HS) (h : recv H s2 5 = true) : rn 198 3 [l0, l1, l2] [.int s0, .int s1, .ref s2] H = bnd true 198 3 [l0, l1, l2] [] (rcal 197 [.ref s2, .int s1, .int s0] H) := rn_cal (vcal h rfl)
theorem x198_6 (l0 l1 l2 : Value) (s0 : Int32) (H : HS) : rn 198 6 [l0, l1, l2] [.int s0] H = some (.inl (some (.int s0)), H) := rn_end rfl
theorem c198 (a0 : Nat) (a1 : Int32) (a2 : Int32) (H : HS) : rcal 198 [.ref a0, .int a1, .int a2] H = rn 198 0 [.ref a0, .int a1, .int a2] [] H := rfl
theorem x199_0 (l0 : Nat) (H : HS) : rn 199 0 [.ref l0] [] H = rn 199 1 [.ref l0] [.ref l0] H := rn_nx rfl
theorem x199_1 (l0 : Value) (s0 : Nat) (H : HS) : rn 199 1 [l0] [.ref s0] H = rn 199 2 [l0] [.int 1, .ref s0] H := rn_nx rfl
theorem x199_2 (l0 : Value) (s0 : Int32) (s1 : Nat) (H : HS) (h : recv H s1 5 = true) : rn 199 2 [l0] [.int s0, .ref s1] H = bnd true 199 2 [l0] [] (rcal 189 [.ref s1, .int s0] H) := rn_cal (vcal h rfl)
theorem x199_5 (l0 : Value) (s0 : Int32) (H : HS) : rn 199 5 [l0] [.int s0] H = some (.inl (some (.int s0)), H) := rn_end rfl
theorem c199 (a0 : Nat) (H : HS) : rcal 199 [.ref a0] H = rn 199 0 [.ref a0] [] H := rfl
theorem x200_0 (l1 : Value) (l0 : Nat) (H : HS) : rn 200 0 [.ref l0, l1] [] H = rn 200 1 [.ref l0, l1] [.ref l0] H := rn_nx rfl
theorem x200_1 (l0 l1 : Value) (s0 : Nat) (H : HS) : rn 200 1 [l0, l1] [.ref s0] H = rn 200 2 [l0, l1] [.int 0, .ref s0] H := rn_nx rfl
theorem x200_2 (l0 l1 : Value) (s0 : Int32) (s1 : Nat) (H : HS) : rn 200 2 [l0, l1] [.int s0, .ref s1] H = pk 200 5 [l0, l1] [] (pfd H true 5 9 s1 (.int s0)) := (rn_ev ..).trans (ev_pk rfl)
theorem x200_5 (l1 : Value) (l0 : Nat) (H : HS) : rn 200 5 [.ref l0, l1] [] H = rn 200 6 [.ref l0, l1] [.ref l0] H := rn_nx rfl
theorem x200_6 (l0 : Value) (l1 : Int32) (s0 : Nat) (H : HS) : rn 200 6 [l0, .int l1] [.ref s0] H = rn 200 7 [l0, .int l1] [.int l1, .ref s0] H := rn_nx rfl
theorem x200_7 (l0 l1 : Value) (s0 : Int32) (s1 : Nat) (H : HS) (h : recv H s1 5 = true) : rn 200 7 [l0, l1] [.int s0, .ref s1] H = bnd true 200 7 [l0, l1] [] (rcal 157 [.ref s1, .int s0] H) := rn_cal (vcal h rfl)
theorem x200_10 (l0 l1 : Value) (s0 : Int32) (H : HS) : rn 200 10 [l0, l1] [.int s0] H = rn 200 11 [l0, l1] [.int (-1), .int s0] H := rn_nx rfl
theorem x200_11 (l0 l1 : Value) (s0 : Int32) (s1 : Int32) (H : HS) : rn 200 11 [l0, l1] [.int s0, .int s1] H = if s1 = s0 then rn 200 18 [l0, l1] [] H else rn 200 14 [l0, l1] [] H := (rn_ev ..).trans (ev_bif rfl)
theorem x200_14 (l0 l1 : Value) (H : HS) : rn 200 14 [l0, l1] [] H = rn 200 15 [l0, l1] [.int 1] H := rn_nx rfl
theorem x200_15 (l0 l1 : Value) (s0 : Int32) (H : HS) : rn 200 15 [l0, l1] [.int s0] H = rn 200 19 [l0, l1] [.int s0] H := rn_nx rfl
theorem x200_19 (l0 l1 : Value) (s0 : Int32) (H : HS) : rn 200 19 [l0, l1] [.int s0] H = if fitp 1 (.int s0) = true then some (.inl (some (.int s0)), H) else none := (rn_ev ..).trans (ev_ret rfl)
theorem x200_18 (l0 l1 : Value) (H : HS) : rn 200 18 [l0, l1] [] H = rn 200 19 [l0, l1] [.int 0] H := rn_nx rfl
theorem c200 (a0 : Nat) (a1 : Int32) (H : HS) : rcal 200 [.ref a0, .int a1] H = rn 200 0 [.ref a0, .int a1] [] H := rfl
theorem x201_0 (l1 l2 : Value) (l0 : Nat) (H : HS) : rn 201 0 [.ref l0, l1, l2] [] H = rn 201 1 [.ref l0, l1, l2] [.ref l0] H := rn_nx rfl
theorem x201_1 (l0 l1 l2 : Value) (s0 : Nat) (H : HS) : rn 201 1 [l0, l1, l2] [.ref s0] H = rn 201 2 [l0, l1, l2] [.int 0, .ref s0] H := rn_nx rfl
theorem x201_2 (l0 l1 l2 : Value) (s0 : Int32) (s1 : Nat) (H : HS) : rn 201 2 [l0, l1, l2] [.int s0, .ref s1] H = pk 201 5 [l0, l1, l2] [] (pfd H true 5 9 s1 (.int s0)) := (rn_ev ..).trans (ev_pk rfl)
theorem x201_5 (l1 l2 : Value) (l0 : Nat) (H : HS) : rn 201 5 [.ref l0, l1, l2] [] H = rn 201 6 [.ref l0, l1, l2] [.ref l0] H := rn_nx rfl
theorem x201_6 (l0 l2 : Value) (l1 : Int32) (s0 : Nat) (H : HS) : rn 201 6 [l0, .int l1, l2] [.ref s0] H = rn 201 7 [l0, .int l1, l2] [.int l1, .ref s0] H := rn_nx rfl
theorem x201_7 (l0 l1 l2 : Value) (s0 : Int32) (s1 : Nat) (H : HS) (h : recv H s1 5 = true) : rn 201 7 [l0, l1, l2] [.int s0, .ref s1] H = bnd true 201 7 [l0, l1, l2] [] (rcal 157 [.ref s1, .int s0] H) := rn_cal (vcal h rfl)
theorem x201_10 (l0 l1 l2 : Value) (s0 : Int32) (H : HS) : rn 201 10 [l0, l1, l2] [.int s0] H = rn 201 11 [l0, l1, l2] [.int (-1), .int s0] H := rn_nx rfl
theorem x201_11 (l0 l1 l2 : Value) (s0 : Int32) (s1 : Int32) (H : HS) : rn 201 11 [l0, l1, l2] [.int s0, .int s1] H = if s1 = s0 then rn 201 14 [l0, l1, l2] [] H else rn 201 22 [l0, l1, l2] [] H := (rn_ev ..).trans (ev_bin rfl)
theorem x201_14 (l1 l2 : Value) (l0 : Nat) (H : HS) : rn 201 14 [.ref l0, l1, l2] [] H = rn 201 15 [.ref l0, l1, l2] [.ref l0] H := rn_nx rfl
theorem x201_15 (l0 l1 l2 : Value) (s0 : Nat) (H : HS) : rn 201 15 [l0, l1, l2] [.ref s0] H = rn 201 16 [l0, l1, l2] [.int 1, .ref s0] H := rn_nx rfl
theorem x201_16 (l0 l1 l2 : Value) (s0 : Int32) (s1 : Nat) (H : HS) (h : recv H s1 5 = true) : rn 201 16 [l0, l1, l2] [.int s0, .ref s1] H = bnd true 201 16 [l0, l1, l2] [] (rcal 150 [.ref s1, .int s0] H) := rn_cal (vcal h rfl)
theorem x201_19 (l0 l1 l2 : Value) (s0 : Int32) (H : HS) : rn 201 19 [l0, l1, l2] [.int s0] H = rn 201 37 [l0, l1, l2] [.int s0] H := rn_nx rfl
theorem x201_37 (l0 l1 l2 : Value) (s0 : Int32) (H : HS) : rn 201 37 [l0, l1, l2] [.int s0] H = some (.inl (some (.int s0)), H) := rn_end rfl
theorem x201_22 (l1 l2 : Value) (l0 : Nat) (H : HS) : rn 201 22 [.ref l0, l1, l2] [] H = rn 201 23 [.ref l0, l1, l2] [.ref l0] H := rn_nx rfl
theorem x201_23 (l0 l1 l2 : Value) (s0 : Nat) (H : HS) : rn 201 23 [l0, l1, l2] [.ref s0] H = gk 201 26 [l0, l1, l2] [] H (gfd H 5 0 s0) := (rn_ev ..).trans (ev_gk rfl)
theorem x201_26 (l1 l2 : Value) (l0 : Nat) (s0 : Nat) (H : HS) : rn 201 26 [.ref l0, l1, l2] [.ref s0] H = rn 201 27 [.ref l0, l1, l2] [.ref l0, .ref s0] H := rn_nx rfl
theorem x201_27 (l0 l2 : Value) (l1 : Int32) (s0 : Nat) (s1 : Nat) (H : HS) : rn 201 27 [l0, .int l1, l2] [.ref s0, .ref s1] H = rn 201 28 [l0, .int l1, l2] [.int l1, .ref s0, .ref s1] H := rn_nx rfl
theorem x201_28 (l0 l1 l2 : Value) (s0 : Int32) (s1 : Nat) (s2 : Nat) (H : HS) (h : recv H s1 5 = true) : rn 201 28 [l0, l1, l2] [.int s0, .ref s1, .ref s2] H = bnd true 201 28 [l0, l1, l2] [.ref s2] (rcal 157 [.ref s1, .int s0] H) := rn_cal (vcal h rfl)
theorem x201_31 (l0 l1 l2 : Value) (s0 : Int32) (s1 : Nat) (H : HS) : rn 201 31 [l0, l1, l2] [.int s0, .ref s1] H = bnd true 201 31 [l0, l1, l2] [.ref s1] (rcal 154 [.int s0] H) := rn_cal rfl
theorem x201_34 (l0 l1 : Value) (l2 : Int32) (s0 : Int32) (s1 : Nat) (H : HS) : rn 201 34 [l0, l1, .int l2] [.int s0, .ref s1] H = rn 201 35 [l0, l1, .int l2] [.int l2, .int s0, .ref s1] H := rn_nx rfl
theorem x201_35 (l0 l1 l2 : Value) (s0 : Int32) (s1 : Int32) (s2 : Nat) (H : HS) : rn 201 35 [l0, l1, l2] [.int s0, .int s1, .ref s2] H = rn 201 36 [l0, l1, l2] [.int (s1 + s0), .ref s2] H := rn_nx rfl
theorem x201_36 (l0 l1 l2 : Value) (s0 : Int32) (s1 : Nat) (H : HS) : rn 201 36 [l0, l1, l2] [.int s0, .ref s1] H = gk 201 37 [l0, l1, l2] [] H (ald H 100 s1 s0) := (rn_ev ..).trans (ev_gk rfl)
theorem c201 (a0 : Nat) (a1 : Int32) (a2 : Int32) (H : HS) : rcal 201 [.ref a0, .int a1, .int a2] H = rn 201 0 [.ref a0, .int a1, .int a2] [] H := rfl
theorem x202_0 (l1 : Value) (l0 : Nat) (H : HS) : rn 202 0 [.ref l0, l1] [] H = rn 202 1 [.ref l0, l1] [.ref l0] H := rn_nx rfl
theorem x202_1 (l0 : Value) (l1 : Int32) (s0 : Nat) (H : HS) : rn 202 1 [l0, .int l1] [.ref s0] H = rn 202 2 [l0, .int l1] [.int l1, .ref s0] H := rn_nx rfl
theorem x202_2 (l0 l1 : Value) (s0 : Int32) (s1 : Nat) (H : HS) : rn 202 2 [l0, l1] [.int s0, .ref s1] H = rn 202 3 [l0, l1] [.int 4, .int s0, .ref s1] H := rn_nx rfl
theorem x202_3 (l0 l1 : Value) (s0 : Int32) (s1 : Int32) (s2 : Nat) (H : HS) (h : recv H s2 5 = true) : rn 202 3 [l0, l1] [.int s0, .int s1, .ref s2] H = bnd true 202 3 [l0, l1] [] (rcal 201 [.ref s2, .int s1, .int s0] H) := rn_cal (vcal h rfl)
theorem x202_6 (l0 l1 : Value) (s0 : Int32) (H : HS) : rn 202 6 [l0, l1] [.int s0] H = if s0 = 0 then rn 202 9 [l0, l1] [] H else rn 202 13 [l0, l1] [] H := (rn_ev ..).trans (ev_bin rfl)
theorem x202_9 (l0 l1 : Value) (H : HS) : rn 202 9 [l0, l1] [] H = rn 202 10 [l0, l1] [.int 1] H := rn_nx rfl
theorem x202_10 (l0 l1 : Value) (s0 : Int32) (H : HS) : rn 202 10 [l0, l1] [.int s0] H = rn 202 14 [l0, l1] [.int s0] H := rn_nx rfl
theorem x202_14 (l0 l1 : Value) (s0 : Int32) (H : HS) : rn 202 14 [l0, l1] [.int s0] H = if fitp 1 (.int s0) = true then some (.inl (some (.int s0)), H) else none := (rn_ev ..).trans (ev_ret rfl)
theorem x202_13 (l0 l1 : Value) (H : HS) : rn 202 13 [l0, l1] [] H = rn 202 14 [l0, l1] [.int 0] H := rn_nx rfl
theorem c202 (a0 : Nat) (a1 : Int32) (H : HS) : rcal 202 [.ref a0, .int a1] H = rn 202 0 [.ref a0, .int a1] [] H := rfl
theorem x203_0 (l1 : Value) (l0 : Nat) (H : HS) : rn 203 0 [.ref l0, l1] [] H = rn 203 1 [.ref l0, l1] [.ref l0] H := rn_nx rfl
theorem x203_1 (l0 : Value) (l1 : Int32) (s0 : Nat) (H : HS) : rn 203 1 [l0, .int l1] [.ref s0] H = rn 203 2 [l0, .int l1] [.int l1, .ref s0] H := rn_nx rfl
theorem x203_2 (l0 l1 : Value) (s0 : Int32) (s1 : Nat) (H : HS) : rn 203 2 [l0, l1] [.int s0, .ref s1] H = rn 203 4 [l0, l1] [.int 7, .int s0, .ref s1] H := rn_nx rfl
theorem x203_4 (l0 l1 : Value) (s0 : Int32) (s1 : Int32) (s2 : Nat) (H : HS) (h : recv H s2 5 = true) : rn 203 4 [l0, l1] [.int s0, .int s1, .ref s2] H = bnd true 203 4 [l0, l1] [] (rcal 201 [.ref s2, .int s1, .int s0] H) := rn_cal (vcal h rfl)
theorem x203_7 (l0 l1 : Value) (s0 : Int32) (H : HS) : rn 203 7 [l0, l1] [.int s0] H = rn 203 8 [l0, l1] [.int 1, .int s0] H := rn_nx rfl
theorem x203_8 (l0 l1 : Value) (s0 : Int32) (s1 : Int32) (H : HS) : rn 203 8 [l0, l1] [.int s0, .int s1] H = if s1 = s0 then rn 203 11 [l0, l1] [] H else rn 203 15 [l0, l1] [] H := (rn_ev ..).trans (ev_bin rfl)
theorem x203_11 (l0 l1 : Value) (H : HS) : rn 203 11 [l0, l1] [] H = rn 203 12 [l0, l1] [.int 1] H := rn_nx rfl
theorem x203_12 (l0 l1 : Value) (s0 : Int32) (H : HS) : rn 203 12 [l0, l1] [.int s0] H = rn 203 16 [l0, l1] [.int s0] H := rn_nx rfl
theorem x203_16 (l0 l1 : Value) (s0 : Int32) (H : HS) : rn 203 16 [l0, l1] [.int s0] H = if fitp 1 (.int s0) = true then some (.inl (some (.int s0)), H) else none := (rn_ev ..).trans (ev_ret rfl)
theorem x203_15 (l0 l1 : Value) (H : HS) : rn 203 15 [l0, l1] [] H = rn 203 16 [l0, l1] [.int 0] H := rn_nx rfl
theorem c203 (a0 : Nat) (a1 : Int32) (H : HS) : rcal 203 [.ref a0, .int a1] H = rn 203 0 [.ref a0, .int a1] [] H := rfl
theorem x204_0 (l1 l2 l3 l4 : Value) (l0 : Nat) (H : HS) : rn 204 0 [.ref l0, l1, l2, l3, l4] [] H = rn 204 1 [.ref l0, l1, l2, l3, l4] [.ref l0] H := rn_nx rfl
theorem x204_1 (l0 l2 l3 l4 : Value) (l1 : Int32) (s0 : Nat) (H : HS) : rn 204 1 [l0, .int l1, l2, l3, l4] [.ref s0] H = rn 204 2 [l0, .int l1, l2, l3, l4] [.int l1, .ref s0] H := rn_nx rfl
theorem x204_2 (l0 l1 l2 l3 l4 : Value) (s0 : Int32) (s1 : Nat) (H : HS) : rn 204 2 [l0, l1, l2, l3, l4] [.int s0, .ref s1] H = rn 204 3 [l0, l1, l2, l3, l4] [.int 4, .int s0, .ref s1] H := rn_nx rfl
theorem x204_3 (l0 l1 l2 l3 l4 : Value) (s0 : Int32) (s1 : Int32) (s2 : Nat) (H : HS) (h : recv H s2 5 = true) : rn 204 3 [l0, l1, l2, l3, l4] [.int s0, .int s1, .ref s2] H = bnd true 204 3 [l0, l1, l2, l3, l4] [] (rcal 201 [.ref s2, .int s1, .int s0] H) := rn_cal (vcal h rfl)
theorem x204_6 (l0 l1 l2 l3 l4 : Value) (s0 : Int32) (H : HS) : rn 204 6 [l0, l1, l2, l3, l4] [.int s0] H = rn 204 8 [l0, l1, l2, (kl l3), .int s0] [] H := rn_nx rfl
theorem x204_8 (l1 l2 l3 l4 : Value) (l0 : Nat) (H : HS) : rn 204 8 [.ref l0, l1, l2, l3, l4] [] H = rn 204 9 [.ref l0, l1, l2, l3, l4] [.ref l0] H := rn_nx rfl
theorem x204_9 (l0 l1 l2 l3 l4 : Value) (s0 : Nat) (H : HS) : rn 204 9 [l0, l1, l2, l3, l4] [.ref s0] H = gk 204 12 [l0, l1, l2, l3, l4] [] H (gfd H 5 9 s0) := (rn_ev ..).trans (ev_gk rfl)
theorem x204_12 (l0 l1 l2 l3 l4 : Value) (s0 : Int32) (H : HS) : rn 204 12 [l0, l1, l2, l3, l4] [.int s0] H = if 0 < s0 then rn 204 15 [l0, l1, l2, l3, l4] [] H else rn 204 17 [l0, l1, l2, l3, l4] [] H := (rn_ev ..).trans (ev_bin rfl)
theorem x204_15 (l0 l1 l2 l3 l4 : Value) (H : HS) : rn 204 15 [l0, l1, l2, l3, l4] [] H = rn 204 16 [l0, l1, l2, l3, l4] [.int (-1)] H := rn_nx rfl
theorem x204_16 (l0 l1 l2 l3 l4 : Value) (s0 : Int32) (H : HS) : rn 204 16 [l0, l1, l2, l3, l4] [.int s0] H = some (.inl (some (.int s0)), H) := rn_end rfl
theorem x204_17 (l0 l1 l2 l3 : Value) (l4 : Int32) (H : HS) : rn 204 17 [l0, l1, l2, l3, .int l4] [] H = rn 204 19 [l0, l1, l2, l3, .int l4] [.int l4] H := rn_nx rfl
theorem x204_19 (l0 l1 l3 l4 : Value) (l2 : Int32) (s0 : Int32) (H : HS) : rn 204 19 [l0, l1, .int l2, l3, l4] [.int s0] H = rn 204 20 [l0, l1, .int l2, l3, l4] [.int l2, .int s0] H := rn_nx rfl
theorem x204_20 (l0 l1 l2 l3 l4 : Value) (s0 : Int32) (s1 : Int32) (H : HS) : rn 204 20 [l0, l1, l2, l3, l4] [.int s0, .int s1] H = if s1 = s0 then rn 204 23 [l0, l1, l2, l3, l4] [] H else rn 204 41 [l0, l1, l2, l3, l4] [] H := (rn_ev ..).trans (ev_bin rfl)
theorem x204_23 (l1 l2 l3 l4 : Value) (l0 : Nat) (H : HS) : rn 204 23 [.ref l0, l1, l2, l3, l4] [] H = rn 204 24 [.ref l0, l1, l2, l3, l4] [.ref l0] H := rn_nx rfl
theorem x204_24 (l0 l1 l2 l3 l4 : Value) (s0 : Nat) (H : HS) : rn 204 24 [l0, l1, l2, l3, l4] [.ref s0] H = gk 204 27 [l0, l1, l2, l3, l4] [] H (gfd H 5 0 s0) := (rn_ev ..).trans (ev_gk rfl)
theorem x204_27 (l1 l2 l3 l4 : Value) (l0 : Nat) (s0 : Nat) (H : HS) : rn 204 27 [.ref l0, l1, l2, l3, l4] [.ref s0] H = rn 204 28 [.ref l0, l1, l2, l3, l4] [.ref l0, .ref s0] H := rn_nx rfl
theorem x204_28 (l0 l2 l3 l4 : Value) (l1 : Int32) (s0 : Nat) (s1 : Nat) (H : HS) : rn 204 28 [l0, .int l1, l2, l3, l4] [.ref s0, .ref s1] H = rn 204 29 [l0, .int l1, l2, l3, l4] [.int l1, .ref s0, .ref s1] H := rn_nx rfl
theorem x204_29 (l0 l1 l2 l3 l4 : Value) (s0 : Int32) (s1 : Nat) (s2 : Nat) (H : HS) (h : recv H s1 5 = true) : rn 204 29 [l0, l1, l2, l3, l4] [.int s0, .ref s1, .ref s2] H = bnd true 204 29 [l0, l1, l2, l3, l4] [.ref s2] (rcal 157 [.ref s1, .int s0] H) := rn_cal (vcal h rfl)
theorem x204_32 (l0 l1 l2 l3 l4 : Value) (s0 : Int32) (s1 : Nat) (H : HS) : rn 204 32 [l0, l1, l2, l3, l4] [.int s0, .ref s1] H = bnd true 204 32 [l0, l1, l2, l3, l4] [.ref s1] (rcal 154 [.int s0] H) := rn_cal rfl
theorem x204_35 (l0 l1 l2 l4 : Value) (l3 : Int32) (s0 : Int32) (s1 : Nat) (H : HS) : rn 204 35 [l0, l1, l2, .int l3, l4] [.int s0, .ref s1] H = rn 204 36 [l0, l1, l2, .int l3, l4] [.int l3, .int s0, .ref s1] H := rn_nx rfl
theorem x204_36 (l0 l1 l2 l3 l4 : Value) (s0 : Int32) (s1 : Int32) (s2 : Nat) (H : HS) : rn 204 36 [l0, l1, l2, l3, l4] [.int s0, .int s1, .ref s2] H = rn 204 37 [l0, l1, l2, l3, l4] [.int (s1 + s0), .ref s2] H := rn_nx rfl
theorem x204_37 (l0 l1 l2 l3 l4 : Value) (s0 : Int32) (s1 : Nat) (H : HS) : rn 204 37 [l0, l1, l2, l3, l4] [.int s0, .ref s1] H = gk 204 38 [l0, l1, l2, l3, l4] [] H (ald H 100 s1 s0) := (rn_ev ..).trans (ev_gk rfl)
theorem x204_38 (l0 l1 l2 l3 l4 : Value) (s0 : Int32) (H : HS) : rn 204 38 [l0, l1, l2, l3, l4] [.int s0] H = rn 204 46 [l0, l1, l2, l3, l4] [.int s0] H := rn_nx rfl
theorem x204_46 (l0 l1 l2 l3 l4 : Value) (s0 : Int32) (H : HS) : rn 204 46 [l0, l1, l2, l3, l4] [.int s0] H = some (.inl (some (.int s0)), H) := rn_end rfl
theorem x204_41 (l1 l2 l3 l4 : Value) (l0 : Nat) (H : HS) : rn 204 41 [.ref l0, l1, l2, l3, l4] [] H = rn 204 42 [.ref l0, l1, l2, l3, l4] [.ref l0] H := rn_nx rfl
theorem x204_42 (l0 l1 l2 l3 l4 : Value) (s0 : Nat) (H : HS) : rn 204 42 [l0, l1, l2, l3, l4] [.ref s0] H = rn 204 43 [l0, l1, l2, l3, l4] [.int 2, .ref s0] H := rn_nx rfl
theorem x204_43 (l0 l1 l2 l3 l4 : Value) (s0 : Int32) (s1 : Nat) (H : HS) (h : recv H s1 5 = true) : rn 204 43 [l0, l1, l2, l3, l4] [.int s0, .ref s1] H = bnd true 204 43 [l0, l1, l2, l3, l4] [] (rcal 150 [.ref s1, .int s0] H) := rn_cal (vcal h rfl)
theorem c204 (a0 : Nat) (a1 : Int32) (a2 : Int32) (a3 : Int32) (H : HS) : rcal 204 [.ref a0, .int a1, .int a2, .int a3] H = rn 204 0 [.ref a0, .int a1, .int a2, .int a3, un] [] H := rfl
theorem x205_0 (l1 : Value) (l0 : Nat) (H : HS) : rn 205 0 [.ref l0, l1] [] H = rn 205 1 [.ref l0, l1] [.ref l0] H := rn_nx rfl
theorem x205_1 (l0 : Value) (l1 : Int32) (s0 : Nat) (H : HS) : rn 205 1 [l0, .int l1] [.ref s0] H = rn 205 2 [l0, .int l1] [.int l1, .ref s0] H := rn_nx rfl
theorem x205_2 (l0 l1 : Value) (s0 : Int32) (s1 : Nat) (H : HS) : rn 205 2 [l0, l1] [.int s0, .ref s1] H = rn 205 3 [l0, l1] [.int 1, .int s0, .ref s1] H := rn_nx rfl
theorem x205_3 (l0 l1 : Value) (s0 : Int32) (s1 : Int32) (s2 : Nat) (H : HS) : rn 205 3 [l0, l1] [.int s0, .int s1, .ref s2] H = rn 205 4 [l0, l1] [.int 5, .int s0, .int s1, .ref s2] H := rn_nx rfl
theorem x205_4 (l0 l1 : Value) (s0 : Int32) (s1 : Int32) (s2 : Int32) (s3 : Nat) (H : HS) (h : recv H s3 5 = true) : rn 205 4 [l0, l1] [.int s0, .int s1, .int s2, .ref s3] H = bnd true 205 4 [l0, l1] [] (rcal 204 [.ref s3, .int s2, .int s1, .int s0] H) := rn_cal (vcal h rfl)
theorem x205_7 (l0 l1 : Value) (s0 : Int32) (H : HS) : rn 205 7 [l0, l1] [.int s0] H = some (.inl (some (.int s0)), H) := rn_end rfl
theorem c205 (a0 : Nat) (a1 : Int32) (H : HS) : rcal 205 [.ref a0, .int a1] H = rn 205 0 [.ref a0, .int a1] [] H := rfl
theorem x206_0 (l1 : Value) (l0 : Nat) (H : HS) : rn 206 0 [.ref l0, l1] [] H = rn 206 1 [.ref l0, l1] [.ref l0] H := rn_nx rfl
theorem x206_1 (l0 : Value) (l1 : Int32) (s0 : Nat) (H : HS) : rn 206 1 [l0, .int l1] [.ref s0] H = rn 206 2 [l0, .int l1] [.int l1, .ref s0] H := rn_nx rfl
theorem x206_2 (l0 l1 : Value) (s0 : Int32) (s1 : Nat) (H : HS) : rn 206 2 [l0, l1] [.int s0, .ref s1] H = rn 206 3 [l0, l1] [.int 2, .int s0, .ref s1] H := rn_nx rfl
theorem x206_3 (l0 l1 : Value) (s0 : Int32) (s1 : Int32) (s2 : Nat) (H : HS) : rn 206 3 [l0, l1] [.int s0, .int s1, .ref s2] H = rn 206 4 [l0, l1] [.int 5, .int s0, .int s1, .ref s2] H := rn_nx rfl
theorem x206_4 (l0 l1 : Value) (s0 : Int32) (s1 : Int32) (s2 : Int32) (s3 : Nat) (H : HS) (h : recv H s3 5 = true) : rn 206 4 [l0, l1] [.int s0, .int s1, .int s2, .ref s3] H = bnd true 206 4 [l0, l1] [] (rcal 204 [.ref s3, .int s2, .int s1, .int s0] H) := rn_cal (vcal h rfl)
theorem x206_7 (l0 l1 : Value) (s0 : Int32) (H : HS) : rn 206 7 [l0, l1] [.int s0] H = some (.inl (some (.int s0)), H) := rn_end rfl
theorem c206 (a0 : Nat) (a1 : Int32) (H : HS) : rcal 206 [.ref a0, .int a1] H = rn 206 0 [.ref a0, .int a1] [] H := rfl
theorem x207_0 (l1 : Value) (l0 : Nat) (H : HS) : rn 207 0 [.ref l0, l1] [] H = rn 207 1 [.ref l0, l1] [.ref l0] H := rn_nx rfl
theorem x207_1 (l0 : Value) (l1 : Int32) (s0 : Nat) (H : HS) : rn 207 1 [l0, .int l1] [.ref s0] H = rn 207 2 [l0, .int l1] [.int l1, .ref s0] H := rn_nx rfl
theorem x207_2 (l0 l1 : Value) (s0 : Int32) (s1 : Nat) (H : HS) : rn 207 2 [l0, l1] [.int s0, .ref s1] H = rn 207 3 [l0, l1] [.int 2, .int s0, .ref s1] H := rn_nx rfl
theorem x207_3 (l0 l1 : Value) (s0 : Int32) (s1 : Int32) (s2 : Nat) (H : HS) : rn 207 3 [l0, l1] [.int s0, .int s1, .ref s2] H = rn 207 5 [l0, l1] [.int 6, .int s0, .int s1, .ref s2] H := rn_nx rfl
theorem x207_5 (l0 l1 : Value) (s0 : Int32) (s1 : Int32) (s2 : Int32) (s3 : Nat) (H : HS) (h : recv H s3 5 = true) : rn 207 5 [l0, l1] [.int s0, .int s1, .int s2, .ref s3] H = bnd true 207 5 [l0, l1] [] (rcal 204 [.ref s3, .int s2, .int s1, .int s0] H) := rn_cal (vcal h rfl)
theorem x207_8 (l0 l1 : Value) (s0 : Int32) (H : HS) : rn 207 8 [l0, l1] [.int s0] H = some (.inl (some (.int s0)), H) := rn_end rfl
theorem c207 (a0 : Nat) (a1 : Int32) (H : HS) : rcal 207 [.ref a0, .int a1] H = rn 207 0 [.ref a0, .int a1] [] H := rfl
theorem x208_0 (l1 : Value) (l0 : Nat) (H : HS) : rn 208 0 [.ref l0, l1] [] H = rn 208 1 [.ref l0, l1] [.ref l0] H := rn_nx rfl
theorem x208_1 (l0 : Value) (l1 : Int32) (s0 : Nat) (H : HS) : rn 208 1 [l0, .int l1] [.ref s0] H = rn 208 2 [l0, .int l1] [.int l1, .ref s0] H := rn_nx rfl
theorem x208_2 (l0 l1 : Value) (s0 : Int32) (s1 : Nat) (H : HS) : rn 208 2 [l0, l1] [.int s0, .ref s1] H = rn 208 4 [l0, l1] [.int 8, .int s0, .ref s1] H := rn_nx rfl
theorem x208_4 (l0 l1 : Value) (s0 : Int32) (s1 : Int32) (s2 : Nat) (H : HS) (h : recv H s2 5 = true) : rn 208 4 [l0, l1] [.int s0, .int s1, .ref s2] H = bnd true 208 4 [l0, l1] [] (rcal 201 [.ref s2, .int s1, .int s0] H) := rn_cal (vcal h rfl)
theorem x208_7 (l0 l1 : Value) (s0 : Int32) (H : HS) : rn 208 7 [l0, l1] [.int s0] H = some (.inl (some (.int s0)), H) := rn_end rfl
theorem c208 (a0 : Nat) (a1 : Int32) (H : HS) : rcal 208 [.ref a0, .int a1] H = rn 208 0 [.ref a0, .int a1] [] H := rfl
theorem x209_0 (l1 : Value) (l0 : Nat) (H : HS) : rn 209 0 [.ref l0, l1] [] H = rn 209 1 [.ref l0, l1] [.ref l0] H := rn_nx rfl
theorem x209_1 (l0 l1 : Value) (s0 : Nat) (H : HS) : rn 209 1 [l0, l1] [.ref s0] H = rn 209 2 [l0, l1] [.int 0, .ref s0] H := rn_nx rfl
theorem x209_2 (l0 l1 : Value) (s0 : Int32) (s1 : Nat) (H : HS) : rn 209 2 [l0, l1] [.int s0, .ref s1] H = pk 209 5 [l0, l1] [] (pfd H true 5 9 s1 (.int s0)) := (rn_ev ..).trans (ev_pk rfl)
theorem x209_5 (l1 : Value) (l0 : Nat) (H : HS) : rn 209 5 [.ref l0, l1] [] H = rn 209 6 [.ref l0, l1] [.ref l0] H := rn_nx rfl
theorem x209_6 (l0 : Value) (l1 : Int32) (s0 : Nat) (H : HS) : rn 209 6 [l0, .int l1] [.ref s0] H = rn 209 7 [l0, .int l1] [.int l1, .ref s0] H := rn_nx rfl
theorem x209_7 (l0 l1 : Value) (s0 : Int32) (s1 : Nat) (H : HS) (h : recv H s1 5 = true) : rn 209 7 [l0, l1] [.int s0, .ref s1] H = bnd true 209 7 [l0, l1] [] (rcal 157 [.ref s1, .int s0] H) := rn_cal (vcal h rfl)
theorem x209_10 (l0 l1 : Value) (s0 : Int32) (H : HS) : rn 209 10 [l0, l1] [.int s0] H = rn 209 11 [l0, l1] [.int (-1), .int s0] H := rn_nx rfl
theorem x209_11 (l0 l1 : Value) (s0 : Int32) (s1 : Int32) (H : HS) : rn 209 11 [l0, l1] [.int s0, .int s1] H = if s1 = s0 then rn 209 14 [l0, l1] [] H else rn 209 22 [l0, l1] [] H := (rn_ev ..).trans (ev_bin rfl)
theorem x209_14 (l1 : Value) (l0 : Nat) (H : HS) : rn 209 14 [.ref l0, l1] [] H = rn 209 15 [.ref l0, l1] [.ref l0] H := rn_nx rfl
theorem x209_15 (l0 l1 : Value) (s0 : Nat) (H : HS) : rn 209 15 [l0, l1] [.ref s0] H = rn 209 16 [l0, l1] [.int 1, .ref s0] H := rn_nx rfl
theorem x209_16 (l0 l1 : Value) (s0 : Int32) (s1 : Nat) (H : HS) (h : recv H s1 5 = true) : rn 209 16 [l0, l1] [.int s0, .ref s1] H = bnd true 209 16 [l0, l1] [] (rcal 150 [.ref s1, .int s0] H) := rn_cal (vcal h rfl)
theorem x209_19 (l0 l1 : Value) (s0 : Int32) (H : HS) : rn 209 19 [l0, l1] [.int s0] H = rn 209 31 [l0, l1] [.int s0] H := rn_nx rfl
theorem x209_31 (l0 l1 : Value) (s0 : Int32) (H : HS) : rn 209 31 [l0, l1] [.int s0] H = some (.inl (some (.int s0)), H) := rn_end rfl
theorem x209_22 (l1 : Value) (l0 : Nat) (H : HS) : rn 209 22 [.ref l0, l1] [] H = rn 209 23 [.ref l0, l1] [.ref l0] H := rn_nx rfl
theorem x209_23 (l1 : Value) (l0 : Nat) (s0 : Nat) (H : HS) : rn 209 23 [.ref l0, l1] [.ref s0] H = rn 209 24 [.ref l0, l1] [.ref l0, .ref s0] H := rn_nx rfl
theorem x209_24 (l0 : Value) (l1 : Int32) (s0 : Nat) (s1 : Nat) (H : HS) : rn 209 24 [l0, .int l1] [.ref s0, .ref s1] H = rn 209 25 [l0, .int l1] [.int l1, .ref s0, .ref s1] H := rn_nx rfl
theorem x209_25 (l0 l1 : Value) (s0 : Int32) (s1 : Nat) (s2 : Nat) (H : HS) (h : recv H s1 5 = true) : rn 209 25 [l0, l1] [.int s0, .ref s1, .ref s2] H = bnd true 209 25 [l0, l1] [.ref s2] (rcal 157 [.ref s1, .int s0] H) := rn_cal (vcal h rfl)
theorem x209_28 (l0 l1 : Value) (s0 : Int32) (s1 : Nat) (H : HS) (h : recv H s1 5 = true) : rn 209 28 [l0, l1] [.int s0, .ref s1] H = bnd true 209 28 [l0, l1] [] (rcal 165 [.ref s1, .int s0] H) := rn_cal (vcal h rfl)
theorem c209 (a0 : Nat) (a1 : Int32) (H : HS) : rcal 209 [.ref a0, .int a1] H = rn 209 0 [.ref a0, .int a1] [] H := rfl
theorem x210_0 (l1 l2 : Value) (l0 : Nat) (H : HS) : rn 210 0 [.ref l0, l1, l2] [] H = rn 210 1 [.ref l0, l1, l2] [.ref l0] H := rn_nx rfl
theorem x210_1 (l0 l1 l2 : Value) (s0 : Nat) (H : HS) : rn 210 1 [l0, l1, l2] [.ref s0] H = rn 210 2 [l0, l1, l2] [.int 0, .ref s0] H := rn_nx rfl
theorem x210_2 (l0 l1 l2 : Value) (s0 : Int32) (s1 : Nat) (H : HS) : rn 210 2 [l0, l1, l2] [.int s0, .ref s1] H = pk 210 5 [l0, l1, l2] [] (pfd H true 5 9 s1 (.int s0)) := (rn_ev ..).trans (ev_pk rfl)
theorem x210_5 (l1 l2 : Value) (l0 : Nat) (H : HS) : rn 210 5 [.ref l0, l1, l2] [] H = rn 210 6 [.ref l0, l1, l2] [.ref l0] H := rn_nx rfl
theorem x210_6 (l0 l2 : Value) (l1 : Int32) (s0 : Nat) (H : HS) : rn 210 6 [l0, .int l1, l2] [.ref s0] H = rn 210 7 [l0, .int l1, l2] [.int l1, .ref s0] H := rn_nx rfl
theorem x210_7 (l0 l1 l2 : Value) (s0 : Int32) (s1 : Nat) (H : HS) (h : recv H s1 5 = true) : rn 210 7 [l0, l1, l2] [.int s0, .ref s1] H = bnd true 210 7 [l0, l1, l2] [] (rcal 157 [.ref s1, .int s0] H) := rn_cal (vcal h rfl)
theorem x210_10 (l0 l1 l2 : Value) (s0 : Int32) (H : HS) : rn 210 10 [l0, l1, l2] [.int s0] H = rn 210 11 [l0, (kl l1), .int s0] [] H := rn_nx rfl
theorem x210_11 (l0 l1 : Value) (l2 : Int32) (H : HS) : rn 210 11 [l0, l1, .int l2] [] H = rn 210 12 [l0, l1, .int l2] [.int l2] H := rn_nx rfl
theorem x210_12 (l0 l1 l2 : Value) (s0 : Int32) (H : HS) : rn 210 12 [l0, l1, l2] [.int s0] H = rn 210 13 [l0, l1, l2] [.int (-1), .int s0] H := rn_nx rfl
theorem x210_13 (l0 l1 l2 : Value) (s0 : Int32) (s1 : Int32) (H : HS) : rn 210 13 [l0, l1, l2] [.int s0, .int s1] H = if s1 = s0 then rn 210 16 [l0, l1, l2] [] H else rn 210 22 [l0, l1, l2] [] H := (rn_ev ..).trans (ev_bin rfl)
theorem x210_16 (l1 l2 : Value) (l0 : Nat) (H : HS) : rn 210 16 [.ref l0, l1, l2] [] H = rn 210 17 [.ref l0, l1, l2] [.ref l0] H := rn_nx rfl
theorem x210_17 (l0 l1 l2 : Value) (s0 : Nat) (H : HS) : rn 210 17 [l0, l1, l2] [.ref s0] H = rn 210 18 [l0, l1, l2] [.int 1, .ref s0] H := rn_nx rfl
theorem x210_18 (l0 l1 l2 : Value) (s0 : Int32) (s1 : Nat) (H : HS) (h : recv H s1 5 = true) : rn 210 18 [l0, l1, l2] [.int s0, .ref s1] H = bnd true 210 18 [l0, l1, l2] [] (rcal 150 [.ref s1, .int s0] H) := rn_cal (vcal h rfl)
theorem x210_21 (l0 l1 l2 : Value) (s0 : Int32) (H : HS) : rn 210 21 [l0, l1, l2] [.int s0] H = some (.inl (some (.int s0)), H) := rn_end rfl
theorem x210_22 (l1 l2 : Value) (l0 : Nat) (H : HS) : rn 210 22 [.ref l0, l1, l2] [] H = rn 210 23 [.ref l0, l1, l2] [.ref l0] H := rn_nx rfl
theorem x210_23 (l0 l1 l2 : Value) (s0 : Nat) (H : HS) : rn 210 23 [l0, l1, l2] [.ref s0] H = gk 210 26 [l0, l1, l2] [] H (gfd H 5 0 s0) := (rn_ev ..).trans (ev_gk rfl)
theorem x210_26 (l0 l1 : Value) (l2 : Int32) (s0 : Nat) (H : HS) : rn 210 26 [l0, l1, .int l2] [.ref s0] H = rn 210 27 [l0, l1, .int l2] [.int l2, .ref s0] H := rn_nx rfl
theorem x210_27 (l0 l1 l2 : Value) (s0 : Int32) (s1 : Nat) (H : HS) : rn 210 27 [l0, l1, l2] [.int s0, .ref s1] H = bnd true 210 27 [l0, l1, l2] [.ref s1] (rcal 154 [.int s0] H) := rn_cal rfl
theorem x210_30 (l0 l1 l2 : Value) (s0 : Int32) (s1 : Nat) (H : HS) : rn 210 30 [l0, l1, l2] [.int s0, .ref s1] H = rn 210 31 [l0, l1, l2] [.int 4, .int s0, .ref s1] H := rn_nx rfl
theorem x210_31 (l0 l1 l2 : Value) (s0 : Int32) (s1 : Int32) (s2 : Nat) (H : HS) : rn 210 31 [l0, l1, l2] [.int s0, .int s1, .ref s2] H = rn 210 32 [l0, l1, l2] [.int (s1 + s0), .ref s2] H := rn_nx rfl
theorem x210_32 (l0 l1 l2 : Value) (s0 : Int32) (s1 : Nat) (H : HS) : rn 210 32 [l0, l1, l2] [.int s0, .ref s1] H = gk 210 33 [l0, l1, l2] [] H (ald H 100 s1 s0) := (rn_ev ..).trans (ev_gk rfl)
theorem x210_33 (l0 l1 l2 : Value) (s0 : Int32) (H : HS) : rn 210 33 [l0, l1, l2] [.int s0] H = if s0 = 0 then rn 210 36 [l0, l1, l2] [] H else rn 210 56 [l0, l1, l2] [] H := (rn_ev ..).trans (ev_bin rfl)
theorem x210_36 (l1 l2 : Value) (l0 : Nat) (H : HS) : rn 210 36 [.ref l0, l1, l2] [] H = rn 210 37 [.ref l0, l1, l2] [.ref l0] H := rn_nx rfl
theorem x210_37 (l0 l1 l2 : Value) (s0 : Nat) (H : HS) : rn 210 37 [l0, l1, l2] [.ref s0] H = gk 210 40 [l0, l1, l2] [] H (gfd H 5 0 s0) := (rn_ev ..).trans (ev_gk rfl)
theorem x210_40 (l0 l1 : Value) (l2 : Int32) (s0 : Nat) (H : HS) : rn 210 40 [l0, l1, .int l2] [.ref s0] H = rn 210 41 [l0, l1, .int l2] [.int l2, .ref s0] H := rn_nx rfl
theorem x210_41 (l0 l1 l2 : Value) (s0 : Int32) (s1 : Nat) (H : HS) : rn 210 41 [l0, l1, l2] [.int s0, .ref s1] H = bnd true 210 41 [l0, l1, l2] [.ref s1] (rcal 154 [.int s0] H) := rn_cal rfl
theorem x210_44 (l0 l1 l2 : Value) (s0 : Int32) (s1 : Nat) (H : HS) : rn 210 44 [l0, l1, l2] [.int s0, .ref s1] H = rn 210 45 [l0, l1, l2] [.int 3, .int s0, .ref s1] H := rn_nx rfl
theorem x210_45 (l0 l1 l2 : Value) (s0 : Int32) (s1 : Int32) (s2 : Nat) (H : HS) : rn 210 45 [l0, l1, l2] [.int s0, .int s1, .ref s2] H = rn 210 46 [l0, l1, l2] [.int (s1 + s0), .ref s2] H := rn_nx rfl
theorem x210_46 (l0 l1 l2 : Value) (s0 : Int32) (s1 : Nat) (H : HS) : rn 210 46 [l0, l1, l2] [.int s0, .ref s1] H = gk 210 47 [l0, l1, l2] [] H (ald H 100 s1 s0) := (rn_ev ..).trans (ev_gk rfl)
theorem x210_47 (l1 l2 : Value) (l0 : Nat) (s0 : Int32) (H : HS) : rn 210 47 [.ref l0, l1, l2] [.int s0] H = rn 210 48 [.ref l0, l1, l2] [.ref l0, .int s0] H := rn_nx rfl
theorem x210_48 (l0 l1 l2 : Value) (s0 : Nat) (s1 : Int32) (H : HS) : rn 210 48 [l0, l1, l2] [.ref s0, .int s1] H = gk 210 51 [l0, l1, l2] [.int s1] H (gfd H 5 0 s0) := (rn_ev ..).trans (ev_gk rfl)
theorem x210_51 (l0 l1 l2 : Value) (s0 : Nat) (s1 : Int32) (H : HS) : rn 210 51 [l0, l1, l2] [.ref s0, .int s1] H = rn 210 52 [l0, l1, l2] [.int 3, .ref s0, .int s1] H := rn_nx rfl
theorem x210_52 (l0 l1 l2 : Value) (s0 : Int32) (s1 : Nat) (s2 : Int32) (H : HS) : rn 210 52 [l0, l1, l2] [.int s0, .ref s1, .int s2] H = gk 210 53 [l0, l1, l2] [.int s2] H (ald H 100 s1 s0) := (rn_ev ..).trans (ev_gk rfl)
theorem x210_53 (l0 l1 l2 : Value) (s0 : Int32) (s1 : Int32) (H : HS) : rn 210 53 [l0, l1, l2] [.int s0, .int s1] H = if s0 < s1 then rn 210 62 [l0, l1, l2] [] H else rn 210 56 [l0, l1, l2] [] H := (rn_ev ..).trans (ev_bif rfl)
theorem x210_56 (l1 l2 : Value) (l0 : Nat) (H : HS) : rn 210 56 [.ref l0, l1, l2] [] H = rn 210 57 [.ref l0, l1, l2] [.ref l0] H := rn_nx rfl
theorem x210_57 (l0 l1 l2 : Value) (s0 : Nat) (H : HS) : rn 210 57 [l0, l1, l2] [.ref s0] H = rn 210 58 [l0, l1, l2] [.int 2, .ref s0] H := rn_nx rfl
theorem x210_58 (l0 l1 l2 : Value) (s0 : Int32) (s1 : Nat) (H : HS) (h : recv H s1 5 = true) : rn 210 58 [l0, l1, l2] [.int s0, .ref s1] H = bnd true 210 58 [l0, l1, l2] [] (rcal 150 [.ref s1, .int s0] H) := rn_cal (vcal h rfl)
theorem x210_61 (l0 l1 l2 : Value) (s0 : Int32) (H : HS) : rn 210 61 [l0, l1, l2] [.int s0] H = some (.inl (some (.int s0)), H) := rn_end rfl
theorem x210_62 (l1 l2 : Value) (l0 : Nat) (H : HS) : rn 210 62 [.ref l0, l1, l2] [] H = rn 210 63 [.ref l0, l1, l2] [.ref l0] H := rn_nx rfl
theorem x210_63 (l0 l1 : Value) (l2 : Int32) (s0 : Nat) (H : HS) : rn 210 63 [l0, l1, .int l2] [.ref s0] H = rn 210 64 [l0, l1, .int l2] [.int l2, .ref s0] H := rn_nx rfl
theorem x210_64 (l0 l1 l2 : Value) (s0 : Int32) (s1 : Nat) (H : HS) (h : recv H s1 5 = true) : rn 210 64 [l0, l1, l2] [.int s0, .ref s1] H = bnd true 210 64 [l0, l1, l2] [] (rcal 165 [.ref s1, .int s0] H) := rn_cal (vcal h rfl)
theorem x210_67 (l0 l1 l2 : Value) (s0 : Int32) (H : HS) : rn 210 67 [l0, l1, l2] [.int s0] H = some (.inl (some (.int s0)), H) := rn_end rfl
theorem c210 (a0 : Nat) (a1 : Int32) (H : HS) : rcal 210 [.ref a0, .int a1] H = rn 210 0 [.ref a0, .int a1, un] [] H := rfl
theorem x211_0 (l0 l1 : Value) (H : HS) : rn 211 0 [l0, l1] [] H = rn 211 1 [l0, l1] [.int 0] H := rn_nx rfl
theorem x211_1 (l0 l1 : Value) (s0 : Int32) (H : HS) : rn 211 1 [l0, l1] [.int s0] H = rn 211 2 [(kl l0), .int s0] [] H := rn_nx rfl
theorem x211_2 (l0 : Value) (l1 : Int32) (H : HS) : rn 211 2 [l0, .int l1] [] H = rn 211 3 [l0, .int l1] [.int l1] H := rn_nx rfl
theorem x211_3 (l0 l1 : Value) (s0 : Int32) (H : HS) : rn 211 3 [l0, l1] [.int s0] H = rn 211 5 [l0, l1] [.int 76, .int s0] H := rn_nx rfl
theorem x211_5 (l0 l1 : Value) (s0 : Int32) (s1 : Int32) (H : HS) : rn 211 5 [l0, l1] [.int s0, .int s1] H = if s1 < s0 then rn 211 8 [l0, l1] [] H else rn 211 26 [l0, l1] [] H := (rn_ev ..).trans (ev_bin rfl)
theorem x211_8 (l1 : Value) (l0 : Nat) (H : HS) : rn 211 8 [.ref l0, l1] [] H = rn 211 9 [.ref l0, l1] [.ref l0] H := rn_nx rfl
theorem x211_9 (l0 l1 : Value) (s0 : Nat) (H : HS) : rn 211 9 [l0, l1] [.ref s0] H = gk 211 12 [l0, l1] [] H (gfd H 5 2 s0) := (rn_ev ..).trans (ev_gk rfl)
theorem x211_12 (l0 : Value) (l1 : Int32) (s0 : Nat) (H : HS) : rn 211 12 [l0, .int l1] [.ref s0] H = rn 211 13 [l0, .int l1] [.int l1, .ref s0] H := rn_nx rfl
theorem x211_13 (l1 : Value) (l0 : Nat) (s0 : Int32) (s1 : Nat) (H : HS) : rn 211 13 [.ref l0, l1] [.int s0, .ref s1] H = rn 211 14 [.ref l0, l1] [.ref l0, .int s0, .ref s1] H := rn_nx rfl
theorem x211_14 (l0 l1 : Value) (s0 : Nat) (s1 : Int32) (s2 : Nat) (H : HS) : rn 211 14 [l0, l1] [.ref s0, .int s1, .ref s2] H = gk 211 17 [l0, l1] [.int s1, .ref s2] H (gfd H 5 0 s0) := (rn_ev ..).trans (ev_gk rfl)
theorem x211_17 (l0 : Value) (l1 : Int32) (s0 : Nat) (s1 : Int32) (s2 : Nat) (H : HS) : rn 211 17 [l0, .int l1] [.ref s0, .int s1, .ref s2] H = rn 211 18 [l0, .int l1] [.int l1, .ref s0, .int s1, .ref s2] H := rn_nx rfl
theorem x211_18 (l0 l1 : Value) (s0 : Int32) (s1 : Nat) (s2 : Int32) (s3 : Nat) (H : HS) : rn 211 18 [l0, l1] [.int s0, .ref s1, .int s2, .ref s3] H = gk 211 19 [l0, l1] [.int s2, .ref s3] H (ald H 100 s1 s0) := (rn_ev ..).trans (ev_gk rfl)
theorem x211_19 (l0 l1 : Value) (s0 : Int32) (s1 : Int32) (s2 : Nat) (H : HS) : rn 211 19 [l0, l1] [.int s0, .int s1, .ref s2] H = pk 211 20 [l0, l1] [] (ast H 100 s2 s1 (.int s0)) := (rn_ev ..).trans (ev_pk rfl)
theorem x211_20 (l0 : Value) (l1 : Int32) (H : HS) : rn 211 20 [l0, .int l1] [] H = rn 211 23 [(kl l0), .int (l1 + 1)] [] H := rn_nx rfl
theorem x211_23 (l0 l1 : Value) (H : HS) : rn 211 23 [l0, l1] [] H = rn 211 2 [l0, l1] [] H := rn_nx rfl
theorem x211_26 (l0 l1 : Value) (H : HS) : rn 211 26 [l0, l1] [] H = some (.inl none, H) := rn_end rfl
theorem c211 (a0 : Nat) (H : HS) : rcal 211 [.ref a0] H = rn 211 0 [.ref a0, un] [] H := rfl
theorem x212_0 (l0 l1 : Value) (H : HS) : rn 212 0 [l0, l1] [] H = rn 212 1 [l0, l1] [.int 0] H := rn_nx rfl
theorem x212_1 (l0 l1 : Value) (s0 : Int32) (H : HS) : rn 212 1 [l0, l1] [.int s0] H = rn 212 2 [(kl l0), .int s0] [] H := rn_nx rfl
theorem x212_2 (l0 : Value) (l1 : Int32) (H : HS) : rn 212 2 [l0, .int l1] [] H = rn 212 3 [l0, .int l1] [.int l1] H := rn_nx rfl
theorem x212_3 (l0 l1 : Value) (s0 : Int32) (H : HS) : rn 212 3 [l0, l1] [.int s0] H = rn 212 5 [l0, l1] [.int 76, .int s0] H := rn_nx rfl
theorem x212_5 (l0 l1 : Value) (s0 : Int32) (s1 : Int32) (H : HS) : rn 212 5 [l0, l1] [.int s0, .int s1] H = if s1 < s0 then rn 212 8 [l0, l1] [] H else rn 212 26 [l0, l1] [] H := (rn_ev ..).trans (ev_bin rfl)
theorem x212_8 (l1 : Value) (l0 : Nat) (H : HS) : rn 212 8 [.ref l0, l1] [] H = rn 212 9 [.ref l0, l1] [.ref l0] H := rn_nx rfl
theorem x212_9 (l0 l1 : Value) (s0 : Nat) (H : HS) : rn 212 9 [l0, l1] [.ref s0] H = gk 212 12 [l0, l1] [] H (gfd H 5 0 s0) := (rn_ev ..).trans (ev_gk rfl)
theorem x212_12 (l0 : Value) (l1 : Int32) (s0 : Nat) (H : HS) : rn 212 12 [l0, .int l1] [.ref s0] H = rn 212 13 [l0, .int l1] [.int l1, .ref s0] H := rn_nx rfl
theorem x212_13 (l1 : Value) (l0 : Nat) (s0 : Int32) (s1 : Nat) (H : HS) : rn 212 13 [.ref l0, l1] [.int s0, .ref s1] H = rn 212 14 [.ref l0, l1] [.ref l0, .int s0, .ref s1] H := rn_nx rfl
theorem x212_14 (l0 l1 : Value) (s0 : Nat) (s1 : Int32) (s2 : Nat) (H : HS) : rn 212 14 [l0, l1] [.ref s0, .int s1, .ref s2] H = gk 212 17 [l0, l1] [.int s1, .ref s2] H (gfd H 5 2 s0) := (rn_ev ..).trans (ev_gk rfl)
theorem x212_17 (l0 : Value) (l1 : Int32) (s0 : Nat) (s1 : Int32) (s2 : Nat) (H : HS) : rn 212 17 [l0, .int l1] [.ref s0, .int s1, .ref s2] H = rn 212 18 [l0, .int l1] [.int l1, .ref s0, .int s1, .ref s2] H := rn_nx rfl
theorem x212_18 (l0 l1 : Value) (s0 : Int32) (s1 : Nat) (s2 : Int32) (s3 : Nat) (H : HS) : rn 212 18 [l0, l1] [.int s0, .ref s1, .int s2, .ref s3] H = gk 212 19 [l0, l1] [.int s2, .ref s3] H (ald H 100 s1 s0) := (rn_ev ..).trans (ev_gk rfl)
theorem x212_19 (l0 l1 : Value) (s0 : Int32) (s1 : Int32) (s2 : Nat) (H : HS) : rn 212 19 [l0, l1] [.int s0, .int s1, .ref s2] H = pk 212 20 [l0, l1] [] (ast H 100 s2 s1 (.int s0)) := (rn_ev ..).trans (ev_pk rfl)
theorem x212_20 (l0 : Value) (l1 : Int32) (H : HS) : rn 212 20 [l0, .int l1] [] H = rn 212 23 [(kl l0), .int (l1 + 1)] [] H := rn_nx rfl
theorem x212_23 (l0 l1 : Value) (H : HS) : rn 212 23 [l0, l1] [] H = rn 212 2 [l0, l1] [] H := rn_nx rfl
theorem x212_26 (l0 l1 : Value) (H : HS) : rn 212 26 [l0, l1] [] H = some (.inl none, H) := rn_end rfl
theorem c212 (a0 : Nat) (H : HS) : rcal 212 [.ref a0] H = rn 212 0 [.ref a0, un] [] H := rfl
theorem x213_0 (l1 l2 l3 l4 : Value) (l0 : Nat) (H : HS) : rn 213 0 [.ref l0, l1, l2, l3, l4] [] H = rn 213 1 [.ref l0, l1, l2, l3, l4] [.ref l0] H := rn_nx rfl
theorem x213_1 (l0 l1 l2 l3 l4 : Value) (s0 : Nat) (H : HS) : rn 213 1 [l0, l1, l2, l3, l4] [.ref s0] H = rn 213 2 [l0, l1, l2, l3, l4] [.int 0, .ref s0] H := rn_nx rfl
theorem x213_2 (l0 l1 l2 l3 l4 : Value) (s0 : Int32) (s1 : Nat) (H : HS) : rn 213 2 [l0, l1, l2, l3, l4] [.int s0, .ref s1] H = pk 213 5 [l0, l1, l2, l3, l4] [] (pfd H true 5 9 s1 (.int s0)) := (rn_ev ..).trans (ev_pk rfl)
theorem x213_5 (l1 l2 l3 l4 : Value) (l0 : Nat) (H : HS) : rn 213 5 [.ref l0, l1, l2, l3, l4] [] H = rn 213 6 [.ref l0, l1, l2, l3, l4] [.ref l0] H := rn_nx rfl
theorem x213_6 (l0 l2 l3 l4 : Value) (l1 : Int32) (s0 : Nat) (H : HS) : rn 213 6 [l0, .int l1, l2, l3, l4] [.ref s0] H = rn 213 7 [l0, .int l1, l2, l3, l4] [.int l1, .ref s0] H := rn_nx rfl
theorem x213_7 (l0 l1 l2 l3 l4 : Value) (s0 : Int32) (s1 : Nat) (H : HS) (h : recv H s1 5 = true) : rn 213 7 [l0, l1, l2, l3, l4] [.int s0, .ref s1] H = bnd true 213 7 [l0, l1, l2, l3, l4] [] (rcal 157 [.ref s1, .int s0] H) := rn_cal (vcal h rfl)
theorem x213_10 (l0 l1 l2 l3 l4 : Value) (s0 : Int32) (H : HS) : rn 213 10 [l0, l1, l2, l3, l4] [.int s0] H = rn 213 11 [l0, l1, l2, l3, l4] [.int (-1), .int s0] H := rn_nx rfl
theorem x213_11 (l0 l1 l2 l3 l4 : Value) (s0 : Int32) (s1 : Int32) (H : HS) : rn 213 11 [l0, l1, l2, l3, l4] [.int s0, .int s1] H = if s1 = s0 then rn 213 14 [l0, l1, l2, l3, l4] [] H else rn 213 20 [l0, l1, l2, l3, l4] [] H := (rn_ev ..).trans (ev_bin rfl)
theorem x213_14 (l1 l2 l3 l4 : Value) (l0 : Nat) (H : HS) : rn 213 14 [.ref l0, l1, l2, l3, l4] [] H = rn 213 15 [.ref l0, l1, l2, l3, l4] [.ref l0] H := rn_nx rfl
theorem x213_15 (l0 l1 l2 l3 l4 : Value) (s0 : Nat) (H : HS) : rn 213 15 [l0, l1, l2, l3, l4] [.ref s0] H = rn 213 16 [l0, l1, l2, l3, l4] [.int 1, .ref s0] H := rn_nx rfl
theorem x213_16 (l0 l1 l2 l3 l4 : Value) (s0 : Int32) (s1 : Nat) (H : HS) (h : recv H s1 5 = true) : rn 213 16 [l0, l1, l2, l3, l4] [.int s0, .ref s1] H = bnd true 213 16 [l0, l1, l2, l3, l4] [] (rcal 150 [.ref s1, .int s0] H) := rn_cal (vcal h rfl)
theorem x213_19 (l0 l1 l2 l3 l4 : Value) (s0 : Int32) (H : HS) : rn 213 19 [l0, l1, l2, l3, l4] [.int s0] H = some (.inl (some (.int s0)), H) := rn_end rfl
theorem x213_20 (l1 l2 l3 l4 : Value) (l0 : Nat) (H : HS) : rn 213 20 [.ref l0, l1, l2, l3, l4] [] H = rn 213 21 [.ref l0, l1, l2, l3, l4] [.ref l0] H := rn_nx rfl
theorem x213_21 (l0 l1 l2 l3 l4 : Value) (s0 : Nat) (H : HS) (h : recv H s0 5 = true) : rn 213 21 [l0, l1, l2, l3, l4] [.ref s0] H = bnd true 213 21 [l0, l1, l2, l3, l4] [] (rcal 211 [.ref s0] H) := rn_cal (vcal h rfl)
theorem x213_24 (l0 l1 l2 l3 l4 : Value) (H : HS) : rn 213 24 [l0, l1, l2, l3, l4] [] H = rn 213 25 [l0, l1, l2, l3, l4] [.int 0] H := rn_nx rfl
theorem x213_25 (l0 l1 l2 l3 l4 : Value) (s0 : Int32) (H : HS) : rn 213 25 [l0, l1, l2, l3, l4] [.int s0] H = rn 213 26 [l0, (kl l1), .int s0, l3, l4] [] H := rn_nx rfl
theorem x213_26 (l0 l1 l3 l4 : Value) (l2 : Int32) (H : HS) : rn 213 26 [l0, l1, .int l2, l3, l4] [] H = rn 213 27 [l0, l1, .int l2, l3, l4] [.int l2] H := rn_nx rfl
theorem x213_27 (l0 l1 l2 l3 l4 : Value) (s0 : Int32) (H : HS) : rn 213 27 [l0, l1, l2, l3, l4] [.int s0] H = rn 213 30 [l0, l1, l2, l3, l4] [.int 300, .int s0] H := rn_nx rfl
theorem x213_30 (l0 l1 l2 l3 l4 : Value) (s0 : Int32) (s1 : Int32) (H : HS) : rn 213 30 [l0, l1, l2, l3, l4] [.int s0, .int s1] H = if s1 < s0 then rn 213 33 [l0, l1, l2, l3, l4] [] H else rn 213 52 [l0, l1, l2, l3, l4] [] H := (rn_ev ..).trans (ev_bin rfl)
theorem x213_33 (l1 l2 l3 l4 : Value) (l0 : Nat) (H : HS) : rn 213 33 [.ref l0, l1, l2, l3, l4] [] H = rn 213 34 [.ref l0, l1, l2, l3, l4] [.ref l0] H := rn_nx rfl
theorem x213_34 (l0 l2 l3 l4 : Value) (l1 : Int32) (s0 : Nat) (H : HS) : rn 213 34 [l0, .int l1, l2, l3, l4] [.ref s0] H = rn 213 35 [l0, .int l1, l2, l3, l4] [.int l1, .ref s0] H := rn_nx rfl
theorem x213_35 (l0 l1 l2 l3 l4 : Value) (s0 : Int32) (s1 : Nat) (H : HS) (h : recv H s1 5 = true) : rn 213 35 [l0, l1, l2, l3, l4] [.int s0, .ref s1] H = bnd true 213 35 [l0, l1, l2, l3, l4] [] (rcal 157 [.ref s1, .int s0] H) := rn_cal (vcal h rfl)
theorem x213_38 (l0 l1 l2 l3 l4 : Value) (s0 : Int32) (H : HS) : rn 213 38 [l0, l1, l2, l3, l4] [.int s0] H = rn 213 39 [l0, l1, l2, l3, l4] [.int (-1), .int s0] H := rn_nx rfl
theorem x213_39 (l0 l1 l2 l3 l4 : Value) (s0 : Int32) (s1 : Int32) (H : HS) : rn 213 39 [l0, l1, l2, l3, l4] [.int s0, .int s1] H = if s1 = s0 then rn 213 52 [l0, l1, l2, l3, l4] [] H else rn 213 42 [l0, l1, l2, l3, l4] [] H := (rn_ev ..).trans (ev_bif rfl)
theorem x213_42 (l1 l2 l3 l4 : Value) (l0 : Nat) (H : HS) : rn 213 42 [.ref l0, l1, l2, l3, l4] [] H = rn 213 43 [.ref l0, l1, l2, l3, l4] [.ref l0] H := rn_nx rfl
theorem x213_43 (l0 l1 l2 l3 l4 : Value) (s0 : Nat) (H : HS) (h : recv H s0 5 = true) : rn 213 43 [l0, l1, l2, l3, l4] [.ref s0] H = bnd true 213 43 [l0, l1, l2, l3, l4] [] (rcal 186 [.ref s0] H) := rn_cal (vcal h rfl)
theorem x213_46 (l0 l1 l3 l4 : Value) (l2 : Int32) (H : HS) : rn 213 46 [l0, l1, .int l2, l3, l4] [] H = rn 213 49 [l0, (kl l1), .int (l2 + 1), l3, l4] [] H := rn_nx rfl
theorem x213_49 (l0 l1 l2 l3 l4 : Value) (H : HS) : rn 213 49 [l0, l1, l2, l3, l4] [] H = rn 213 26 [l0, l1, l2, l3, l4] [] H := rn_nx rfl
theorem x213_52 (l1 l2 l3 l4 : Value) (l0 : Nat) (H : HS) : rn 213 52 [.ref l0, l1, l2, l3, l4] [] H = rn 213 53 [.ref l0, l1, l2, l3, l4] [.ref l0] H := rn_nx rfl
theorem x213_53 (l0 l2 l3 l4 : Value) (l1 : Int32) (s0 : Nat) (H : HS) : rn 213 53 [l0, .int l1, l2, l3, l4] [.ref s0] H = rn 213 54 [l0, .int l1, l2, l3, l4] [.int l1, .ref s0] H := rn_nx rfl
theorem x213_54 (l0 l1 l2 l3 l4 : Value) (s0 : Int32) (s1 : Nat) (H : HS) (h : recv H s1 5 = true) : rn 213 54 [l0, l1, l2, l3, l4] [.int s0, .ref s1] H = bnd true 213 54 [l0, l1, l2, l3, l4] [] (rcal 157 [.ref s1, .int s0] H) := rn_cal (vcal h rfl)
theorem x213_57 (l0 l1 l2 l3 l4 : Value) (s0 : Int32) (H : HS) : rn 213 57 [l0, l1, l2, l3, l4] [.int s0] H = rn 213 58 [l0, l1, l2, l3, l4] [.int (-1), .int s0] H := rn_nx rfl
theorem x213_58 (l0 l1 l2 l3 l4 : Value) (s0 : Int32) (s1 : Int32) (H : HS) : rn 213 58 [l0, l1, l2, l3, l4] [.int s0, .int s1] H = if s1 = s0 then rn 213 61 [l0, l1, l2, l3, l4] [] H else rn 213 65 [l0, l1, l2, l3, l4] [] H := (rn_ev ..).trans (ev_bin rfl)
theorem x213_61 (l0 l1 l2 l3 l4 : Value) (H : HS) : rn 213 61 [l0, l1, l2, l3, l4] [] H = rn 213 62 [l0, l1, l2, l3, l4] [.int 1] H := rn_nx rfl
theorem x213_62 (l0 l1 l2 l3 l4 : Value) (s0 : Int32) (H : HS) : rn 213 62 [l0, l1, l2, l3, l4] [.int s0] H = rn 213 66 [l0, l1, l2, l3, l4] [.int s0] H := rn_nx rfl
theorem x213_66 (l0 l1 l2 l3 l4 : Value) (s0 : Int32) (H : HS) : rn 213 66 [l0, l1, l2, l3, l4] [.int s0] H = rn 213 67 [l0, l1, (kl l2), .int s0, l4] [] H := rn_nx rfl
theorem x213_67 (l1 l2 l3 l4 : Value) (l0 : Nat) (H : HS) : rn 213 67 [.ref l0, l1, l2, l3, l4] [] H = rn 213 68 [.ref l0, l1, l2, l3, l4] [.ref l0] H := rn_nx rfl
theorem x213_68 (l0 l1 l2 l3 l4 : Value) (s0 : Nat) (H : HS) : rn 213 68 [l0, l1, l2, l3, l4] [.ref s0] H = gk 213 71 [l0, l1, l2, l3, l4] [] H (gfd H 5 0 s0) := (rn_ev ..).trans (ev_gk rfl)
theorem x213_71 (l0 l1 l2 l3 l4 : Value) (s0 : Nat) (H : HS) : rn 213 71 [l0, l1, l2, l3, l4] [.ref s0] H = rn 213 72 [l0, l1, l2, l3, l4] [.int 3, .ref s0] H := rn_nx rfl
theorem x213_72 (l0 l1 l2 l3 l4 : Value) (s0 : Int32) (s1 : Nat) (H : HS) : rn 213 72 [l0, l1, l2, l3, l4] [.int s0, .ref s1] H = gk 213 73 [l0, l1, l2, l3, l4] [] H (ald H 100 s1 s0) := (rn_ev ..).trans (ev_gk rfl)
theorem x213_73 (l0 l1 l2 l3 l4 : Value) (s0 : Int32) (H : HS) : rn 213 73 [l0, l1, l2, l3, l4] [.int s0] H = rn 213 75 [l0, l1, l2, (kl l3), .int s0] [] H := rn_nx rfl
theorem x213_75 (l1 l2 l3 l4 : Value) (l0 : Nat) (H : HS) : rn 213 75 [.ref l0, l1, l2, l3, l4] [] H = rn 213 76 [.ref l0, l1, l2, l3, l4] [.ref l0] H := rn_nx rfl
theorem x213_76 (l0 l1 l2 l3 l4 : Value) (s0 : Nat) (H : HS) (h : recv H s0 5 = true) : rn 213 76 [l0, l1, l2, l3, l4] [.ref s0] H = bnd true 213 76 [l0, l1, l2, l3, l4] [] (rcal 212 [.ref s0] H) := rn_cal (vcal h rfl)
theorem x213_79 (l0 l1 l2 l4 : Value) (l3 : Int32) (H : HS) : rn 213 79 [l0, l1, l2, .int l3, l4] [] H = rn 213 80 [l0, l1, l2, .int l3, l4] [.int l3] H := rn_nx rfl
theorem x213_80 (l0 l1 l2 l3 l4 : Value) (s0 : Int32) (H : HS) : rn 213 80 [l0, l1, l2, l3, l4] [.int s0] H = if s0 = 0 then rn 213 88 [l0, l1, l2, l3, l4] [] H else rn 213 83 [l0, l1, l2, l3, l4] [] H := (rn_ev ..).trans (ev_bif rfl)
theorem x213_83 (l0 l1 l2 l3 : Value) (l4 : Int32) (H : HS) : rn 213 83 [l0, l1, l2, l3, .int l4] [] H = rn 213 85 [l0, l1, l2, l3, .int l4] [.int l4] H := rn_nx rfl
theorem x213_85 (l0 l1 l2 l3 l4 : Value) (s0 : Int32) (H : HS) : rn 213 85 [l0, l1, l2, l3, l4] [.int s0] H = rn 213 93 [l0, l1, l2, l3, l4] [.int s0] H := rn_nx rfl
theorem x213_93 (l0 l1 l2 l3 l4 : Value) (s0 : Int32) (H : HS) : rn 213 93 [l0, l1, l2, l3, l4] [.int s0] H = some (.inl (some (.int s0)), H) := rn_end rfl
theorem x213_88 (l1 l2 l3 l4 : Value) (l0 : Nat) (H : HS) : rn 213 88 [.ref l0, l1, l2, l3, l4] [] H = rn 213 89 [.ref l0, l1, l2, l3, l4] [.ref l0] H := rn_nx rfl
theorem x213_89 (l0 l1 l2 l3 l4 : Value) (s0 : Nat) (H : HS) : rn 213 89 [l0, l1, l2, l3, l4] [.ref s0] H = rn 213 90 [l0, l1, l2, l3, l4] [.int 1, .ref s0] H := rn_nx rfl
theorem x213_90 (l0 l1 l2 l3 l4 : Value) (s0 : Int32) (s1 : Nat) (H : HS) (h : recv H s1 5 = true) : rn 213 90 [l0, l1, l2, l3, l4] [.int s0, .ref s1] H = bnd true 213 90 [l0, l1, l2, l3, l4] [] (rcal 150 [.ref s1, .int s0] H) := rn_cal (vcal h rfl)
theorem x213_65 (l0 l1 l2 l3 l4 : Value) (H : HS) : rn 213 65 [l0, l1, l2, l3, l4] [] H = rn 213 66 [l0, l1, l2, l3, l4] [.int 0] H := rn_nx rfl
theorem c213 (a0 : Nat) (a1 : Int32) (H : HS) : rcal 213 [.ref a0, .int a1] H = rn 213 0 [.ref a0, .int a1, un, un, un] [] H := rfl
theorem x214_0 (l1 : Value) (l0 : Nat) (H : HS) : rn 214 0 [.ref l0, l1] [] H = rn 214 1 [.ref l0, l1] [.ref l0] H := rn_nx rfl
theorem x214_1 (l0 l1 : Value) (s0 : Nat) (H : HS) : rn 214 1 [l0, l1] [.ref s0] H = rn 214 2 [l0, l1] [.int 0, .ref s0] H := rn_nx rfl
theorem x214_2 (l0 l1 : Value) (s0 : Int32) (s1 : Nat) (H : HS) : rn 214 2 [l0, l1] [.int s0, .ref s1] H = pk 214 5 [l0, l1] [] (pfd H true 5 9 s1 (.int s0)) := (rn_ev ..).trans (ev_pk rfl)
theorem x214_5 (l1 : Value) (l0 : Nat) (H : HS) : rn 214 5 [.ref l0, l1] [] H = rn 214 6 [.ref l0, l1] [.ref l0] H := rn_nx rfl
theorem x214_6 (l0 l1 : Value) (s0 : Nat) (H : HS) (h : recv H s0 5 = true) : rn 214 6 [l0, l1] [.ref s0] H = bnd true 214 6 [l0, l1] [] (rcal 211 [.ref s0] H) := rn_cal (vcal h rfl)
theorem x214_9 (l0 l1 : Value) (H : HS) : rn 214 9 [l0, l1] [] H = rn 214 10 [l0, l1] [.int 0] H := rn_nx rfl
theorem x214_10 (l0 l1 : Value) (s0 : Int32) (H : HS) : rn 214 10 [l0, l1] [.int s0] H = rn 214 11 [(kl l0), .int s0] [] H := rn_nx rfl
theorem x214_11 (l0 : Value) (l1 : Int32) (H : HS) : rn 214 11 [l0, .int l1] [] H = rn 214 12 [l0, .int l1] [.int l1] H := rn_nx rfl
theorem x214_12 (l0 l1 : Value) (s0 : Int32) (H : HS) : rn 214 12 [l0, l1] [.int s0] H = rn 214 15 [l0, l1] [.int 300, .int s0] H := rn_nx rfl
theorem x214_15 (l0 l1 : Value) (s0 : Int32) (s1 : Int32) (H : HS) : rn 214 15 [l0, l1] [.int s0, .int s1] H = if s1 < s0 then rn 214 18 [l0, l1] [] H else rn 214 28 [l0, l1] [] H := (rn_ev ..).trans (ev_bin rfl)
theorem x214_18 (l1 : Value) (l0 : Nat) (H : HS) : rn 214 18 [.ref l0, l1] [] H = rn 214 19 [.ref l0, l1] [.ref l0] H := rn_nx rfl
theorem x214_19 (l0 l1 : Value) (s0 : Nat) (H : HS) (h : recv H s0 5 = true) : rn 214 19 [l0, l1] [.ref s0] H = bnd true 214 19 [l0, l1] [] (rcal 186 [.ref s0] H) := rn_cal (vcal h rfl)
theorem x214_22 (l0 : Value) (l1 : Int32) (H : HS) : rn 214 22 [l0, .int l1] [] H = rn 214 25 [(kl l0), .int (l1 + 1)] [] H := rn_nx rfl
theorem x214_25 (l0 l1 : Value) (H : HS) : rn 214 25 [l0, l1] [] H = rn 214 11 [l0, l1] [] H := rn_nx rfl
theorem x214_28 (l1 : Value) (l0 : Nat) (H : HS) : rn 214 28 [.ref l0, l1] [] H = rn 214 29 [.ref l0, l1] [.ref l0] H := rn_nx rfl
theorem x214_29 (l0 l1 : Value) (s0 : Nat) (H : HS) : rn 214 29 [l0, l1] [.ref s0] H = gk 214 32 [l0, l1] [] H (gfd H 5 0 s0) := (rn_ev ..).trans (ev_gk rfl)
theorem x214_32 (l0 l1 : Value) (s0 : Nat) (H : HS) : rn 214 32 [l0, l1] [.ref s0] H = rn 214 33 [l0, l1] [.int 1, .ref s0] H := rn_nx rfl
theorem x214_33 (l0 l1 : Value) (s0 : Int32) (s1 : Nat) (H : HS) : rn 214 33 [l0, l1] [.int s0, .ref s1] H = gk 214 34 [l0, l1] [] H (ald H 100 s1 s0) := (rn_ev ..).trans (ev_gk rfl)
theorem x214_34 (l0 l1 : Value) (s0 : Int32) (H : HS) : rn 214 34 [l0, l1] [.int s0] H = rn 214 35 [(kl l0), .int s0] [] H := rn_nx rfl
theorem x214_35 (l1 : Value) (l0 : Nat) (H : HS) : rn 214 35 [.ref l0, l1] [] H = rn 214 36 [.ref l0, l1] [.ref l0] H := rn_nx rfl
theorem x214_36 (l0 l1 : Value) (s0 : Nat) (H : HS) (h : recv H s0 5 = true) : rn 214 36 [l0, l1] [.ref s0] H = bnd true 214 36 [l0, l1] [] (rcal 212 [.ref s0] H) := rn_cal (vcal h rfl)
theorem x214_39 (l0 : Value) (l1 : Int32) (H : HS) : rn 214 39 [l0, .int l1] [] H = rn 214 40 [l0, .int l1] [.int l1] H := rn_nx rfl
theorem x214_40 (l0 l1 : Value) (s0 : Int32) (H : HS) : rn 214 40 [l0, l1] [.int s0] H = some (.inl (some (.int s0)), H) := rn_end rfl
theorem c214 (a0 : Nat) (H : HS) : rcal 214 [.ref a0] H = rn 214 0 [.ref a0, un] [] H := rfl
theorem x215_0 (l1 l2 l3 l4 l5 : Value) (l0 : Nat) (H : HS) : rn 215 0 [.ref l0, l1, l2, l3, l4, l5] [] H = rn 215 1 [.ref l0, l1, l2, l3, l4, l5] [.ref l0] H := rn_nx rfl
theorem x215_1 (l0 l1 l2 l3 l4 l5 : Value) (s0 : Nat) (H : HS) : rn 215 1 [l0, l1, l2, l3, l4, l5] [.ref s0] H = rn 215 2 [l0, l1, l2, l3, l4, l5] [.int 0, .ref s0] H := rn_nx rfl
theorem x215_2 (l0 l1 l2 l3 l4 l5 : Value) (s0 : Int32) (s1 : Nat) (H : HS) : rn 215 2 [l0, l1, l2, l3, l4, l5] [.int s0, .ref s1] H = pk 215 5 [l0, l1, l2, l3, l4, l5] [] (pfd H true 5 9 s1 (.int s0)) := (rn_ev ..).trans (ev_pk rfl)
theorem x215_5 (l0 l1 l2 l3 l4 l5 : Value) (H : HS) : rn 215 5 [l0, l1, l2, l3, l4, l5] [] H = rn 215 6 [l0, l1, l2, l3, l4, l5] [.int 0] H := rn_nx rfl
theorem x215_6 (l0 l1 l2 l3 l4 l5 : Value) (s0 : Int32) (H : HS) : rn 215 6 [l0, l1, l2, l3, l4, l5] [.int s0] H = rn 215 7 [l0, (kl l1), .int s0, l3, l4, l5] [] H := rn_nx rfl
theorem x215_7 (l0 l1 l3 l4 l5 : Value) (l2 : Int32) (H : HS) : rn 215 7 [l0, l1, .int l2, l3, l4, l5] [] H = rn 215 8 [l0, l1, .int l2, l3, l4, l5] [.int l2] H := rn_nx rfl
theorem x215_8 (l1 l2 l3 l4 l5 : Value) (l0 : Nat) (s0 : Int32) (H : HS) : rn 215 8 [.ref l0, l1, l2, l3, l4, l5] [.int s0] H = rn 215 9 [.ref l0, l1, l2, l3, l4, l5] [.ref l0, .int s0] H := rn_nx rfl
theorem x215_9 (l0 l1 l2 l3 l4 l5 : Value) (s0 : Nat) (s1 : Int32) (H : HS) : rn 215 9 [l0, l1, l2, l3, l4, l5] [.ref s0, .int s1] H = gk 215 12 [l0, l1, l2, l3, l4, l5] [.int s1] H (gfd H 5 0 s0) := (rn_ev ..).trans (ev_gk rfl)
theorem x215_12 (l0 l1 l2 l3 l4 l5 : Value) (s0 : Nat) (s1 : Int32) (H : HS) : rn 215 12 [l0, l1, l2, l3, l4, l5] [.ref s0, .int s1] H = rn 215 13 [l0, l1, l2, l3, l4, l5] [.int 1, .ref s0, .int s1] H := rn_nx rfl
theorem x215_13 (l0 l1 l2 l3 l4 l5 : Value) (s0 : Int32) (s1 : Nat) (s2 : Int32) (H : HS) : rn 215 13 [l0, l1, l2, l3, l4, l5] [.int s0, .ref s1, .int s2] H = gk 215 14 [l0, l1, l2, l3, l4, l5] [.int s2] H (ald H 100 s1 s0) := (rn_ev ..).trans (ev_gk rfl)
theorem x215_14 (l0 l1 l2 l3 l4 l5 : Value) (s0 : Int32) (s1 : Int32) (H : HS) : rn 215 14 [l0, l1, l2, l3, l4, l5] [.int s0, .int s1] H = if s1 < s0 then rn 215 17 [l0, l1, l2, l3, l4, l5] [] H else rn 215 136 [l0, l1, l2, l3, l4, l5] [] H := (rn_ev ..).trans (ev_bin rfl)
theorem x215_17 (l0 l1 l2 l3 l4 l5 : Value) (H : HS) : rn 215 17 [l0, l1, l2, l3, l4, l5] [] H = rn 215 18 [l0, l1, l2, l3, l4, l5] [.int 0] H := rn_nx rfl
theorem x215_18 (l0 l1 l2 l3 l4 l5 : Value) (s0 : Int32) (H : HS) : rn 215 18 [l0, l1, l2, l3, l4, l5] [.int s0] H = rn 215 19 [l0, l1, (kl l2), .int s0, l4, l5] [] H := rn_nx rfl
theorem x215_19 (l0 l1 l2 l3 l4 l5 : Value) (H : HS) : rn 215 19 [l0, l1, l2, l3, l4, l5] [] H = rn 215 20 [l0, l1, l2, l3, l4, l5] [.int 0] H := rn_nx rfl
theorem x215_20 (l0 l1 l2 l3 l4 l5 : Value) (s0 : Int32) (H : HS) : rn 215 20 [l0, l1, l2, l3, l4, l5] [.int s0] H = rn 215 22 [l0, l1, l2, (kl l3), .int s0, l5] [] H := rn_nx rfl
theorem x215_22 (l0 l1 l2 l3 l5 : Value) (l4 : Int32) (H : HS) : rn 215 22 [l0, l1, l2, l3, .int l4, l5] [] H = rn 215 24 [l0, l1, l2, l3, .int l4, l5] [.int l4] H := rn_nx rfl
theorem x215_24 (l1 l2 l3 l4 l5 : Value) (l0 : Nat) (s0 : Int32) (H : HS) : rn 215 24 [.ref l0, l1, l2, l3, l4, l5] [.int s0] H = rn 215 25 [.ref l0, l1, l2, l3, l4, l5] [.ref l0, .int s0] H := rn_nx rfl
theorem x215_25 (l0 l1 l2 l3 l4 l5 : Value) (s0 : Nat) (s1 : Int32) (H : HS) : rn 215 25 [l0, l1, l2, l3, l4, l5] [.ref s0, .int s1] H = gk 215 28 [l0, l1, l2, l3, l4, l5] [.int s1] H (gfd H 5 0 s0) := (rn_ev ..).trans (ev_gk rfl)
theorem x215_28 (l0 l1 l2 l3 l4 l5 : Value) (s0 : Nat) (s1 : Int32) (H : HS) : rn 215 28 [l0, l1, l2, l3, l4, l5] [.ref s0, .int s1] H = rn 215 29 [l0, l1, l2, l3, l4, l5] [.int 1, .ref s0, .int s1] H := rn_nx rfl
theorem x215_29 (l0 l1 l2 l3 l4 l5 : Value) (s0 : Int32) (s1 : Nat) (s2 : Int32) (H : HS) : rn 215 29 [l0, l1, l2, l3, l4, l5] [.int s0, .ref s1, .int s2] H = gk 215 30 [l0, l1, l2, l3, l4, l5] [.int s2] H (ald H 100 s1 s0) := (rn_ev ..).trans (ev_gk rfl)
theorem x215_30 (l0 l1 l2 l3 l4 l5 : Value) (s0 : Int32) (s1 : Int32) (H : HS) : rn 215 30 [l0, l1, l2, l3, l4, l5] [.int s0, .int s1] H = if s1 < s0 then rn 215 33 [l0, l1, l2, l3, l4, l5] [] H else rn 215 115 [l0, l1, l2, l3, l4, l5] [] H := (rn_ev ..).trans (ev_bin rfl)
theorem x215_33 (l1 l2 l3 l4 l5 : Value) (l0 : Nat) (H : HS) : rn 215 33 [.ref l0, l1, l2, l3, l4, l5] [] H = rn 215 34 [.ref l0, l1, l2, l3, l4, l5] [.ref l0] H := rn_nx rfl
theorem x215_34 (l0 l1 l2 l3 l4 l5 : Value) (s0 : Nat) (H : HS) : rn 215 34 [l0, l1, l2, l3, l4, l5] [.ref s0] H = gk 215 37 [l0, l1, l2, l3, l4, l5] [] H (gfd H 5 0 s0) := (rn_ev ..).trans (ev_gk rfl)
theorem x215_37 (l0 l1 l2 l3 l5 : Value) (l4 : Int32) (s0 : Nat) (H : HS) : rn 215 37 [l0, l1, l2, l3, .int l4, l5] [.ref s0] H = rn 215 39 [l0, l1, l2, l3, .int l4, l5] [.int l4, .ref s0] H := rn_nx rfl
theorem x215_39 (l0 l1 l2 l3 l4 l5 : Value) (s0 : Int32) (s1 : Nat) (H : HS) : rn 215 39 [l0, l1, l2, l3, l4, l5] [.int s0, .ref s1] H = bnd true 215 39 [l0, l1, l2, l3, l4, l5] [.ref s1] (rcal 154 [.int s0] H) := rn_cal rfl
theorem x215_42 (l0 l1 l2 l3 l4 l5 : Value) (s0 : Int32) (s1 : Nat) (H : HS) : rn 215 42 [l0, l1, l2, l3, l4, l5] [.int s0, .ref s1] H = rn 215 44 [l0, l1, l2, l3, l4, l5] [.int 8, .int s0, .ref s1] H := rn_nx rfl
theorem x215_44 (l0 l1 l2 l3 l4 l5 : Value) (s0 : Int32) (s1 : Int32) (s2 : Nat) (H : HS) : rn 215 44 [l0, l1, l2, l3, l4, l5] [.int s0, .int s1, .ref s2] H = rn 215 45 [l0, l1, l2, l3, l4, l5] [.int (s1 + s0), .ref s2] H := rn_nx rfl
theorem x215_45 (l0 l1 l2 l3 l4 l5 : Value) (s0 : Int32) (s1 : Nat) (H : HS) : rn 215 45 [l0, l1, l2, l3, l4, l5] [.int s0, .ref s1] H = gk 215 46 [l0, l1, l2, l3, l4, l5] [] H (ald H 100 s1 s0) := (rn_ev ..).trans (ev_gk rfl)
theorem x215_46 (l1 l2 l3 l4 l5 : Value) (l0 : Nat) (s0 : Int32) (H : HS) : rn 215 46 [.ref l0, l1, l2, l3, l4, l5] [.int s0] H = rn 215 47 [.ref l0, l1, l2, l3, l4, l5] [.ref l0, .int s0] H := rn_nx rfl
theorem x215_47 (l0 l1 l2 l3 l4 l5 : Value) (s0 : Nat) (s1 : Int32) (H : HS) : rn 215 47 [l0, l1, l2, l3, l4, l5] [.ref s0, .int s1] H = gk 215 50 [l0, l1, l2, l3, l4, l5] [.int s1] H (gfd H 5 0 s0) := (rn_ev ..).trans (ev_gk rfl)
theorem x215_50 (l0 l1 l3 l4 l5 : Value) (l2 : Int32) (s0 : Nat) (s1 : Int32) (H : HS) : rn 215 50 [l0, l1, .int l2, l3, l4, l5] [.ref s0, .int s1] H = rn 215 51 [l0, l1, .int l2, l3, l4, l5] [.int l2, .ref s0, .int s1] H := rn_nx rfl
theorem x215_51 (l0 l1 l2 l3 l4 l5 : Value) (s0 : Int32) (s1 : Nat) (s2 : Int32) (H : HS) : rn 215 51 [l0, l1, l2, l3, l4, l5] [.int s0, .ref s1, .int s2] H = bnd true 215 51 [l0, l1, l2, l3, l4, l5] [.ref s1, .int s2] (rcal 154 [.int s0] H) := rn_cal rfl
theorem x215_54 (l0 l1 l2 l3 l4 l5 : Value) (s0 : Int32) (s1 : Nat) (s2 : Int32) (H : HS) : rn 215 54 [l0, l1, l2, l3, l4, l5] [.int s0, .ref s1, .int s2] H = rn 215 56 [l0, l1, l2, l3, l4, l5] [.int 8, .int s0, .ref s1, .int s2] H := rn_nx rfl
theorem x215_56 (l0 l1 l2 l3 l4 l5 : Value) (s0 : Int32) (s1 : Int32) (s2 : Nat) (s3 : Int32) (H : HS) : rn 215 56 [l0, l1, l2, l3, l4, l5] [.int s0, .int s1, .ref s2, .int s3] H = rn 215 57 [l0, l1, l2, l3, l4, l5] [.int (s1 + s0), .ref s2, .int s3] H := rn_nx rfl
theorem x215_57 (l0 l1 l2 l3 l4 l5 : Value) (s0 : Int32) (s1 : Nat) (s2 : Int32) (H : HS) : rn 215 57 [l0, l1, l2, l3, l4, l5] [.int s0, .ref s1, .int s2] H = gk 215 58 [l0, l1, l2, l3, l4, l5] [.int s2] H (ald H 100 s1 s0) := (rn_ev ..).trans (ev_gk rfl)
theorem x215_58 (l0 l1 l2 l3 l4 l5 : Value) (s0 : Int32) (s1 : Int32) (H : HS) : rn 215 58 [l0, l1, l2, l3, l4, l5] [.int s0, .int s1] H = rn 215 59 [l0, l1, l2, l3, l4, l5] [.int (s1 - s0)] H := rn_nx rfl
theorem x215_59 (l0 l1 l2 l3 l4 l5 : Value) (s0 : Int32) (H : HS) : rn 215 59 [l0, l1, l2, l3, l4, l5] [.int s0] H = rn 215 61 [l0, l1, l2, l3, (kl l4), .int s0] [] H := rn_nx rfl
theorem x215_61 (l0 l1 l2 l3 l4 : Value) (l5 : Int32) (H : HS) : rn 215 61 [l0, l1, l2, l3, l4, .int l5] [] H = rn 215 63 [l0, l1, l2, l3, l4, .int l5] [.int l5] H := rn_nx rfl
theorem x215_63 (l0 l1 l2 l3 l4 l5 : Value) (s0 : Int32) (H : HS) : rn 215 63 [l0, l1, l2, l3, l4, l5] [.int s0] H = if s0 = 0 then rn 215 66 [l0, l1, l2, l3, l4, l5] [] H else rn 215 81 [l0, l1, l2, l3, l4, l5] [] H := (rn_ev ..).trans (ev_bin rfl)
theorem x215_66 (l1 l2 l3 l4 l5 : Value) (l0 : Nat) (H : HS) : rn 215 66 [.ref l0, l1, l2, l3, l4, l5] [] H = rn 215 67 [.ref l0, l1, l2, l3, l4, l5] [.ref l0] H := rn_nx rfl
theorem x215_67 (l0 l1 l3 l4 l5 : Value) (l2 : Int32) (s0 : Nat) (H : HS) : rn 215 67 [l0, l1, .int l2, l3, l4, l5] [.ref s0] H = rn 215 68 [l0, l1, .int l2, l3, l4, l5] [.int l2, .ref s0] H := rn_nx rfl
theorem x215_68 (l0 l1 l2 l3 l4 l5 : Value) (s0 : Int32) (s1 : Nat) (H : HS) (h : recv H s1 5 = true) : rn 215 68 [l0, l1, l2, l3, l4, l5] [.int s0, .ref s1] H = bnd true 215 68 [l0, l1, l2, l3, l4, l5] [] (rcal 165 [.ref s1, .int s0] H) := rn_cal (vcal h rfl)
theorem x215_71 (l1 l2 l3 l4 l5 : Value) (l0 : Nat) (s0 : Int32) (H : HS) : rn 215 71 [.ref l0, l1, l2, l3, l4, l5] [.int s0] H = rn 215 72 [.ref l0, l1, l2, l3, l4, l5] [.ref l0, .int s0] H := rn_nx rfl
theorem x215_72 (l0 l1 l2 l3 l5 : Value) (l4 : Int32) (s0 : Nat) (s1 : Int32) (H : HS) : rn 215 72 [l0, l1, l2, l3, .int l4, l5] [.ref s0, .int s1] H = rn 215 74 [l0, l1, l2, l3, .int l4, l5] [.int l4, .ref s0, .int s1] H := rn_nx rfl
theorem x215_74 (l0 l1 l2 l3 l4 l5 : Value) (s0 : Int32) (s1 : Nat) (s2 : Int32) (H : HS) (h : recv H s1 5 = true) : rn 215 74 [l0, l1, l2, l3, l4, l5] [.int s0, .ref s1, .int s2] H = bnd true 215 74 [l0, l1, l2, l3, l4, l5] [.int s2] (rcal 165 [.ref s1, .int s0] H) := rn_cal (vcal h rfl)
theorem x215_77 (l0 l1 l2 l3 l4 l5 : Value) (s0 : Int32) (s1 : Int32) (H : HS) : rn 215 77 [l0, l1, l2, l3, l4, l5] [.int s0, .int s1] H = rn 215 78 [l0, l1, l2, l3, l4, l5] [.int (s1 - s0)] H := rn_nx rfl
theorem x215_78 (l0 l1 l2 l3 l4 l5 : Value) (s0 : Int32) (H : HS) : rn 215 78 [l0, l1, l2, l3, l4, l5] [.int s0] H = rn 215 83 [l0, l1, l2, l3, l4, l5] [.int s0] H := rn_nx rfl
theorem x215_83 (l0 l1 l2 l3 l4 l5 : Value) (s0 : Int32) (H : HS) : rn 215 83 [l0, l1, l2, l3, l4, l5] [.int s0] H = rn 215 85 [l0, l1, l2, l3, (kl l4), .int s0] [] H := rn_nx rfl
theorem x215_85 (l0 l1 l2 l4 l5 : Value) (l3 : Int32) (H : HS) : rn 215 85 [l0, l1, l2, .int l3, l4, l5] [] H = rn 215 86 [l0, l1, l2, .int l3, l4, l5] [.int l3] H := rn_nx rfl
theorem x215_86 (l0 l1 l2 l3 l4 : Value) (l5 : Int32) (s0 : Int32) (H : HS) : rn 215 86 [l0, l1, l2, l3, l4, .int l5] [.int s0] H = rn 215 88 [l0, l1, l2, l3, l4, .int l5] [.int l5, .int s0] H := rn_nx rfl
theorem x215_88 (l0 l1 l2 l3 l4 l5 : Value) (s0 : Int32) (s1 : Int32) (H : HS) : rn 215 88 [l0, l1, l2, l3, l4, l5] [.int s0, .int s1] H = if 0 < s0 then rn 215 102 [l0, l1, l2, l3, l4, l5] [.int s1] H else rn 215 91 [l0, l1, l2, l3, l4, l5] [.int s1] H := (rn_ev ..).trans (ev_bif rfl)
theorem x215_91 (l0 l1 l2 l3 l4 : Value) (l5 : Int32) (s0 : Int32) (H : HS) : rn 215 91 [l0, l1, l2, l3, l4, .int l5] [.int s0] H = rn 215 93 [l0, l1, l2, l3, l4, .int l5] [.int l5, .int s0] H := rn_nx rfl
theorem x215_93 (l0 l1 l2 l3 l4 l5 : Value) (s0 : Int32) (s1 : Int32) (H : HS) : rn 215 93 [l0, l1, l2, l3, l4, l5] [.int s0, .int s1] H = if s0 = 0 then rn 215 96 [l0, l1, l2, l3, l4, l5] [.int s1] H else rn 215 106 [l0, l1, l2, l3, l4, l5] [.int s1] H := (rn_ev ..).trans (ev_bin rfl)
theorem x215_96 (l0 l1 l2 l3 l5 : Value) (l4 : Int32) (s0 : Int32) (H : HS) : rn 215 96 [l0, l1, l2, l3, .int l4, l5] [.int s0] H = rn 215 98 [l0, l1, l2, l3, .int l4, l5] [.int l4, .int s0] H := rn_nx rfl
theorem x215_98 (l0 l1 l3 l4 l5 : Value) (l2 : Int32) (s0 : Int32) (s1 : Int32) (H : HS) : rn 215 98 [l0, l1, .int l2, l3, l4, l5] [.int s0, .int s1] H = rn 215 99 [l0, l1, .int l2, l3, l4, l5] [.int l2, .int s0, .int s1] H := rn_nx rfl
theorem x215_99 (l0 l1 l2 l3 l4 l5 : Value) (s0 : Int32) (s1 : Int32) (s2 : Int32) (H : HS) : rn 215 99 [l0, l1, l2, l3, l4, l5] [.int s0, .int s1, .int s2] H = if s1 < s0 then rn 215 102 [l0, l1, l2, l3, l4, l5] [.int s2] H else rn 215 106 [l0, l1, l2, l3, l4, l5] [.int s2] H := (rn_ev ..).trans (ev_bin rfl)
theorem x215_102 (l0 l1 l2 l3 l4 l5 : Value) (s0 : Int32) (H : HS) : rn 215 102 [l0, l1, l2, l3, l4, l5] [.int s0] H = rn 215 103 [l0, l1, l2, l3, l4, l5] [.int 1, .int s0] H := rn_nx rfl
theorem x215_103 (l0 l1 l2 l3 l4 l5 : Value) (s0 : Int32) (s1 : Int32) (H : HS) : rn 215 103 [l0, l1, l2, l3, l4, l5] [.int s0, .int s1] H = rn 215 107 [l0, l1, l2, l3, l4, l5] [.int s0, .int s1] H := rn_nx rfl
theorem x215_107 (l0 l1 l2 l3 l4 l5 : Value) (s0 : Int32) (s1 : Int32) (H : HS) : rn 215 107 [l0, l1, l2, l3, l4, l5] [.int s0, .int s1] H = rn 215 108 [l0, l1, l2, l3, l4, l5] [.int (s1 + s0)] H := rn_nx rfl
theorem x215_108 (l0 l1 l2 l3 l4 l5 : Value) (s0 : Int32) (H : HS) : rn 215 108 [l0, l1, l2, l3, l4, l5] [.int s0] H = rn 215 109 [l0, l1, (kl l2), .int s0, l4, l5] [] H := rn_nx rfl
theorem x215_109 (l0 l1 l2 l3 l5 : Value) (l4 : Int32) (H : HS) : rn 215 109 [l0, l1, l2, l3, .int l4, l5] [] H = rn 215 112 [l0, l1, l2, (kl l3), .int (l4 + 1), l5] [] H := rn_nx rfl
theorem x215_112 (l0 l1 l2 l3 l4 l5 : Value) (H : HS) : rn 215 112 [l0, l1, l2, l3, l4, l5] [] H = rn 215 22 [l0, l1, l2, l3, l4, l5] [] H := rn_nx rfl
theorem x215_106 (l0 l1 l2 l3 l4 l5 : Value) (s0 : Int32) (H : HS) : rn 215 106 [l0, l1, l2, l3, l4, l5] [.int s0] H = rn 215 107 [l0, l1, l2, l3, l4, l5] [.int 0, .int s0] H := rn_nx rfl
theorem x215_81 (l0 l1 l2 l3 l4 : Value) (l5 : Int32) (H : HS) : rn 215 81 [l0, l1, l2, l3, l4, .int l5] [] H = rn 215 83 [l0, l1, l2, l3, l4, .int l5] [.int l5] H := rn_nx rfl
theorem x215_115 (l0 l1 l2 l4 l5 : Value) (l3 : Int32) (H : HS) : rn 215 115 [l0, l1, l2, .int l3, l4, l5] [] H = rn 215 116 [l0, l1, l2, .int l3, l4, l5] [.int l3] H := rn_nx rfl
theorem x215_116 (l0 l2 l3 l4 l5 : Value) (l1 : Int32) (s0 : Int32) (H : HS) : rn 215 116 [l0, .int l1, l2, l3, l4, l5] [.int s0] H = rn 215 117 [l0, .int l1, l2, l3, l4, l5] [.int l1, .int s0] H := rn_nx rfl
theorem x215_117 (l0 l1 l2 l3 l4 l5 : Value) (s0 : Int32) (s1 : Int32) (H : HS) : rn 215 117 [l0, l1, l2, l3, l4, l5] [.int s0, .int s1] H = if s1 = s0 then rn 215 120 [l0, l1, l2, l3, l4, l5] [] H else rn 215 130 [l0, l1, l2, l3, l4, l5] [] H := (rn_ev ..).trans (ev_bin rfl)
theorem x215_120 (l1 l2 l3 l4 l5 : Value) (l0 : Nat) (H : HS) : rn 215 120 [.ref l0, l1, l2, l3, l4, l5] [] H = rn 215 121 [.ref l0, l1, l2, l3, l4, l5] [.ref l0] H := rn_nx rfl
theorem x215_121 (l0 l1 l2 l3 l4 l5 : Value) (s0 : Nat) (H : HS) : rn 215 121 [l0, l1, l2, l3, l4, l5] [.ref s0] H = gk 215 124 [l0, l1, l2, l3, l4, l5] [] H (gfd H 5 0 s0) := (rn_ev ..).trans (ev_gk rfl)
theorem x215_124 (l0 l1 l3 l4 l5 : Value) (l2 : Int32) (s0 : Nat) (H : HS) : rn 215 124 [l0, l1, .int l2, l3, l4, l5] [.ref s0] H = rn 215 125 [l0, l1, .int l2, l3, l4, l5] [.int l2, .ref s0] H := rn_nx rfl
theorem x215_125 (l0 l1 l2 l3 l4 l5 : Value) (s0 : Int32) (s1 : Nat) (H : HS) : rn 215 125 [l0, l1, l2, l3, l4, l5] [.int s0, .ref s1] H = bnd true 215 125 [l0, l1, l2, l3, l4, l5] [.ref s1] (rcal 154 [.int s0] H) := rn_cal rfl
theorem x215_128 (l0 l1 l2 l3 l4 l5 : Value) (s0 : Int32) (s1 : Nat) (H : HS) : rn 215 128 [l0, l1, l2, l3, l4, l5] [.int s0, .ref s1] H = gk 215 129 [l0, l1, l2, l3, l4, l5] [] H (ald H 100 s1 s0) := (rn_ev ..).trans (ev_gk rfl)
theorem x215_129 (l0 l1 l2 l3 l4 l5 : Value) (s0 : Int32) (H : HS) : rn 215 129 [l0, l1, l2, l3, l4, l5] [.int s0] H = some (.inl (some (.int s0)), H) := rn_end rfl
theorem x215_130 (l0 l1 l3 l4 l5 : Value) (l2 : Int32) (H : HS) : rn 215 130 [l0, l1, .int l2, l3, l4, l5] [] H = rn 215 133 [l0, (kl l1), .int (l2 + 1), l3, l4, l5] [] H := rn_nx rfl
theorem x215_133 (l0 l1 l2 l3 l4 l5 : Value) (H : HS) : rn 215 133 [l0, l1, l2, l3, l4, l5] [] H = rn 215 7 [l0, l1, l2, l3, l4, l5] [] H := rn_nx rfl
theorem x215_136 (l1 l2 l3 l4 l5 : Value) (l0 : Nat) (H : HS) : rn 215 136 [.ref l0, l1, l2, l3, l4, l5] [] H = rn 215 137 [.ref l0, l1, l2, l3, l4, l5] [.ref l0] H := rn_nx rfl
theorem x215_137 (l0 l1 l2 l3 l4 l5 : Value) (s0 : Nat) (H : HS) : rn 215 137 [l0, l1, l2, l3, l4, l5] [.ref s0] H = rn 215 138 [l0, l1, l2, l3, l4, l5] [.int 1, .ref s0] H := rn_nx rfl
theorem x215_138 (l0 l1 l2 l3 l4 l5 : Value) (s0 : Int32) (s1 : Nat) (H : HS) (h : recv H s1 5 = true) : rn 215 138 [l0, l1, l2, l3, l4, l5] [.int s0, .ref s1] H = bnd true 215 138 [l0, l1, l2, l3, l4, l5] [] (rcal 150 [.ref s1, .int s0] H) := rn_cal (vcal h rfl)
theorem x215_141 (l0 l1 l2 l3 l4 l5 : Value) (s0 : Int32) (H : HS) : rn 215 141 [l0, l1, l2, l3, l4, l5] [.int s0] H = some (.inl (some (.int s0)), H) := rn_end rfl
theorem c215 (a0 : Nat) (a1 : Int32) (H : HS) : rcal 215 [.ref a0, .int a1] H = rn 215 0 [.ref a0, .int a1, un, un, un, un] [] H := rfl
theorem x216_0 (l0 : Nat) (H : HS) : rn 216 0 [.ref l0] [] H = rn 216 1 [.ref l0] [.ref l0] H := rn_nx rfl
theorem x216_1 (l0 : Value) (s0 : Nat) (H : HS) : rn 216 1 [l0] [.ref s0] H = rn 216 2 [l0] [.int 3, .ref s0] H := rn_nx rfl
theorem x216_2 (l0 : Value) (s0 : Int32) (s1 : Nat) (H : HS) (h : recv H s1 5 = true) : rn 216 2 [l0] [.int s0, .ref s1] H = bnd true 216 2 [l0] [] (rcal 189 [.ref s1, .int s0] H) := rn_cal (vcal h rfl)
theorem x216_5 (l0 : Value) (s0 : Int32) (H : HS) : rn 216 5 [l0] [.int s0] H = some (.inl (some (.int s0)), H) := rn_end rfl
theorem c216 (a0 : Nat) (H : HS) : rcal 216 [.ref a0] H = rn 216 0 [.ref a0] [] H := rfl
theorem x217_0 (l0 : Nat) (H : HS) : rn 217 0 [.ref l0] [] H = rn 217 1 [.ref l0] [.ref l0] H := rn_nx rfl
theorem x217_1 (l0 : Value) (s0 : Nat) (H : HS) : rn 217 1 [l0] [.ref s0] H = rn 217 2 [l0] [.int 4, .ref s0] H := rn_nx rfl
theorem x217_2 (l0 : Value) (s0 : Int32) (s1 : Nat) (H : HS) (h : recv H s1 5 = true) : rn 217 2 [l0] [.int s0, .ref s1] H = bnd true 217 2 [l0] [] (rcal 189 [.ref s1, .int s0] H) := rn_cal (vcal h rfl)
theorem x217_5 (l0 : Value) (s0 : Int32) (H : HS) : rn 217 5 [l0] [.int s0] H = some (.inl (some (.int s0)), H) := rn_end rfl
theorem c217 (a0 : Nat) (H : HS) : rcal 217 [.ref a0] H = rn 217 0 [.ref a0] [] H := rfl
theorem x218_0 (l0 : Nat) (H : HS) : rn 218 0 [.ref l0] [] H = rn 218 1 [.ref l0] [.ref l0] H := rn_nx rfl
theorem x218_1 (l0 : Value) (s0 : Nat) (H : HS) : rn 218 1 [l0] [.ref s0] H = rn 218 2 [l0] [.int 0, .ref s0] H := rn_nx rfl
theorem x218_2 (l0 : Value) (s0 : Int32) (s1 : Nat) (H : HS) : rn 218 2 [l0] [.int s0, .ref s1] H = pk 218 5 [l0] [] (pfd H true 5 9 s1 (.int s0)) := (rn_ev ..).trans (ev_pk rfl)
theorem x218_5 (l0 : Nat) (H : HS) : rn 218 5 [.ref l0] [] H = rn 218 6 [.ref l0] [.ref l0] H := rn_nx rfl
theorem x218_6 (l0 : Value) (s0 : Nat) (H : HS) : rn 218 6 [l0] [.ref s0] H = gk 218 9 [l0] [] H (gfd H 5 0 s0) := (rn_ev ..).trans (ev_gk rfl)
theorem x218_9 (l0 : Value) (s0 : Nat) (H : HS) : rn 218 9 [l0] [.ref s0] H = rn 218 10 [l0] [.int 4, .ref s0] H := rn_nx rfl
theorem x218_10 (l0 : Value) (s0 : Int32) (s1 : Nat) (H : HS) : rn 218 10 [l0] [.int s0, .ref s1] H = gk 218 11 [l0] [] H (ald H 100 s1 s0) := (rn_ev ..).trans (ev_gk rfl)
theorem x218_11 (l0 : Value) (s0 : Int32) (H : HS) : rn 218 11 [l0] [.int s0] H = if s0 = 0 then rn 218 14 [l0] [] H else rn 218 22 [l0] [] H := (rn_ev ..).trans (ev_bin rfl)
theorem x218_14 (l0 : Nat) (H : HS) : rn 218 14 [.ref l0] [] H = rn 218 15 [.ref l0] [.ref l0] H := rn_nx rfl
theorem x218_15 (l0 : Value) (s0 : Nat) (H : HS) : rn 218 15 [l0] [.ref s0] H = rn 218 16 [l0] [.int 1, .ref s0] H := rn_nx rfl
theorem x218_16 (l0 : Value) (s0 : Int32) (s1 : Nat) (H : HS) (h : recv H s1 5 = true) : rn 218 16 [l0] [.int s0, .ref s1] H = bnd true 218 16 [l0] [] (rcal 150 [.ref s1, .int s0] H) := rn_cal (vcal h rfl)
theorem x218_19 (l0 : Value) (s0 : Int32) (H : HS) : rn 218 19 [l0] [.int s0] H = rn 218 28 [l0] [.int s0] H := rn_nx rfl
theorem x218_28 (l0 : Value) (s0 : Int32) (H : HS) : rn 218 28 [l0] [.int s0] H = some (.inl (some (.int s0)), H) := rn_end rfl
theorem x218_22 (l0 : Nat) (H : HS) : rn 218 22 [.ref l0] [] H = rn 218 23 [.ref l0] [.ref l0] H := rn_nx rfl
theorem x218_23 (l0 : Value) (s0 : Nat) (H : HS) : rn 218 23 [l0] [.ref s0] H = gk 218 26 [l0] [] H (gfd H 5 0 s0) := (rn_ev ..).trans (ev_gk rfl)
theorem x218_26 (l0 : Value) (s0 : Nat) (H : HS) : rn 218 26 [l0] [.ref s0] H = rn 218 27 [l0] [.int 5, .ref s0] H := rn_nx rfl
theorem x218_27 (l0 : Value) (s0 : Int32) (s1 : Nat) (H : HS) : rn 218 27 [l0] [.int s0, .ref s1] H = gk 218 28 [l0] [] H (ald H 100 s1 s0) := (rn_ev ..).trans (ev_gk rfl)
theorem c218 (a0 : Nat) (H : HS) : rcal 218 [.ref a0] H = rn 218 0 [.ref a0] [] H := rfl
theorem x219_0 (l0 : Nat) (H : HS) : rn 219 0 [.ref l0] [] H = rn 219 1 [.ref l0] [.ref l0] H := rn_nx rfl
theorem x219_1 (l0 : Value) (s0 : Nat) (H : HS) : rn 219 1 [l0] [.ref s0] H = rn 219 3 [l0] [.int 8, .ref s0] H := rn_nx rfl
theorem x219_3 (l0 : Value) (s0 : Int32) (s1 : Nat) (H : HS) (h : recv H s1 5 = true) : rn 219 3 [l0] [.int s0, .ref s1] H = bnd true 219 3 [l0] [] (rcal 189 [.ref s1, .int s0] H) := rn_cal (vcal h rfl)
theorem x219_6 (l0 : Value) (s0 : Int32) (H : HS) : rn 219 6 [l0] [.int s0] H = rn 219 7 [l0] [.long s0.toInt64] H := rn_nx rfl
theorem x219_7 (l0 : Value) (s0 : Int64) (H : HS) : rn 219 7 [l0] [.long s0] H = some (.inl (some (.long s0)), H) := rn_end rfl
theorem c219 (a0 : Nat) (H : HS) : rcal 219 [.ref a0] H = rn 219 0 [.ref a0] [] H := rfl
theorem x220_0 (l0 : Nat) (H : HS) : rn 220 0 [.ref l0] [] H = rn 220 1 [.ref l0] [.ref l0] H := rn_nx rfl
theorem x220_1 (l0 : Value) (s0 : Nat) (H : HS) : rn 220 1 [l0] [.ref s0] H = rn 220 2 [l0] [.int 0, .ref s0] H := rn_nx rfl
theorem x220_2 (l0 : Value) (s0 : Int32) (s1 : Nat) (H : HS) : rn 220 2 [l0] [.int s0, .ref s1] H = pk 220 5 [l0] [] (pfd H true 5 9 s1 (.int s0)) := (rn_ev ..).trans (ev_pk rfl)
theorem x220_5 (l0 : Nat) (H : HS) : rn 220 5 [.ref l0] [] H = rn 220 6 [.ref l0] [.ref l0] H := rn_nx rfl
theorem x220_6 (l0 : Value) (s0 : Nat) (H : HS) : rn 220 6 [l0] [.ref s0] H = gk 220 9 [l0] [] H (gfd H 5 0 s0) := (rn_ev ..).trans (ev_gk rfl)
theorem x220_9 (l0 : Value) (s0 : Nat) (H : HS) : rn 220 9 [l0] [.ref s0] H = rn 220 10 [l0] [.int 4, .ref s0] H := rn_nx rfl
theorem x220_10 (l0 : Value) (s0 : Int32) (s1 : Nat) (H : HS) : rn 220 10 [l0] [.int s0, .ref s1] H = gk 220 11 [l0] [] H (ald H 100 s1 s0) := (rn_ev ..).trans (ev_gk rfl)
theorem x220_11 (l0 : Value) (s0 : Int32) (H : HS) : rn 220 11 [l0] [.int s0] H = if s0 = 0 then rn 220 14 [l0] [] H else rn 220 22 [l0] [] H := (rn_ev ..).trans (ev_bin rfl)
theorem x220_14 (l0 : Nat) (H : HS) : rn 220 14 [.ref l0] [] H = rn 220 15 [.ref l0] [.ref l0] H := rn_nx rfl
theorem x220_15 (l0 : Value) (s0 : Nat) (H : HS) : rn 220 15 [l0] [.ref s0] H = rn 220 16 [l0] [.int 1, .ref s0] H := rn_nx rfl
theorem x220_16 (l0 : Value) (s0 : Int32) (s1 : Nat) (H : HS) (h : recv H s1 5 = true) : rn 220 16 [l0] [.int s0, .ref s1] H = bnd true 220 16 [l0] [] (rcal 150 [.ref s1, .int s0] H) := rn_cal (vcal h rfl)
theorem x220_19 (l0 : Value) (s0 : Int32) (H : HS) : rn 220 19 [l0] [.int s0] H = rn 220 29 [l0] [.int s0] H := rn_nx rfl
theorem x220_29 (l0 : Value) (s0 : Int32) (H : HS) : rn 220 29 [l0] [.int s0] H = some (.inl (some (.int s0)), H) := rn_end rfl
theorem x220_22 (l0 : Nat) (H : HS) : rn 220 22 [.ref l0] [] H = rn 220 23 [.ref l0] [.ref l0] H := rn_nx rfl
theorem x220_23 (l0 : Value) (s0 : Nat) (H : HS) : rn 220 23 [l0] [.ref s0] H = gk 220 26 [l0] [] H (gfd H 5 0 s0) := (rn_ev ..).trans (ev_gk rfl)
theorem x220_26 (l0 : Value) (s0 : Nat) (H : HS) : rn 220 26 [l0] [.ref s0] H = rn 220 28 [l0] [.int 6, .ref s0] H := rn_nx rfl
theorem x220_28 (l0 : Value) (s0 : Int32) (s1 : Nat) (H : HS) : rn 220 28 [l0] [.int s0, .ref s1] H = gk 220 29 [l0] [] H (ald H 100 s1 s0) := (rn_ev ..).trans (ev_gk rfl)
theorem c220 (a0 : Nat) (H : HS) : rcal 220 [.ref a0] H = rn 220 0 [.ref a0] [] H := rfl
theorem x221_0 (l0 : Nat) (H : HS) : rn 221 0 [.ref l0] [] H = rn 221 1 [.ref l0] [.ref l0] H := rn_nx rfl
theorem x221_1 (l0 : Value) (s0 : Nat) (H : HS) : rn 221 1 [l0] [.ref s0] H = rn 221 2 [l0] [.int 0, .ref s0] H := rn_nx rfl
theorem x221_2 (l0 : Value) (s0 : Int32) (s1 : Nat) (H : HS) : rn 221 2 [l0] [.int s0, .ref s1] H = pk 221 5 [l0] [] (pfd H true 5 9 s1 (.int s0)) := (rn_ev ..).trans (ev_pk rfl)
theorem x221_5 (l0 : Nat) (H : HS) : rn 221 5 [.ref l0] [] H = rn 221 6 [.ref l0] [.ref l0] H := rn_nx rfl
theorem x221_6 (l0 : Value) (s0 : Nat) (H : HS) : rn 221 6 [l0] [.ref s0] H = gk 221 9 [l0] [] H (gfd H 5 0 s0) := (rn_ev ..).trans (ev_gk rfl)
theorem x221_9 (l0 : Value) (s0 : Nat) (H : HS) : rn 221 9 [l0] [.ref s0] H = rn 221 10 [l0] [.int 4, .ref s0] H := rn_nx rfl
theorem x221_10 (l0 : Value) (s0 : Int32) (s1 : Nat) (H : HS) : rn 221 10 [l0] [.int s0, .ref s1] H = gk 221 11 [l0] [] H (ald H 100 s1 s0) := (rn_ev ..).trans (ev_gk rfl)
theorem x221_11 (l0 : Value) (s0 : Int32) (H : HS) : rn 221 11 [l0] [.int s0] H = if s0 = 0 then rn 221 14 [l0] [] H else rn 221 22 [l0] [] H := (rn_ev ..).trans (ev_bin rfl)
theorem x221_14 (l0 : Nat) (H : HS) : rn 221 14 [.ref l0] [] H = rn 221 15 [.ref l0] [.ref l0] H := rn_nx rfl
theorem x221_15 (l0 : Value) (s0 : Nat) (H : HS) : rn 221 15 [l0] [.ref s0] H = rn 221 16 [l0] [.int 1, .ref s0] H := rn_nx rfl
theorem x221_16 (l0 : Value) (s0 : Int32) (s1 : Nat) (H : HS) (h : recv H s1 5 = true) : rn 221 16 [l0] [.int s0, .ref s1] H = bnd true 221 16 [l0] [] (rcal 150 [.ref s1, .int s0] H) := rn_cal (vcal h rfl)
theorem x221_19 (l0 : Value) (s0 : Int32) (H : HS) : rn 221 19 [l0] [.int s0] H = rn 221 20 [l0] [] H := rn_nx rfl
theorem x221_20 (l0 : Value) (H : HS) : rn 221 20 [l0] [] H = rn 221 21 [l0] [.double FP.dconst0] H := rn_nx rfl
theorem x221_21 (l0 : Value) (s0 : UInt64) (H : HS) : rn 221 21 [l0] [.double s0] H = some (.inl (some (.double s0)), H) := rn_end rfl
theorem x221_22 (l0 : Nat) (H : HS) : rn 221 22 [.ref l0] [] H = rn 221 23 [.ref l0] [.ref l0] H := rn_nx rfl
theorem x221_23 (l0 : Value) (s0 : Nat) (H : HS) : rn 221 23 [l0] [.ref s0] H = gk 221 26 [l0] [] H (gfd H 5 0 s0) := (rn_ev ..).trans (ev_gk rfl)
theorem x221_26 (l0 : Value) (s0 : Nat) (H : HS) : rn 221 26 [l0] [.ref s0] H = rn 221 28 [l0] [.int 8, .ref s0] H := rn_nx rfl
theorem x221_28 (l0 : Value) (s0 : Int32) (s1 : Nat) (H : HS) : rn 221 28 [l0] [.int s0, .ref s1] H = gk 221 29 [l0] [] H (ald H 100 s1 s0) := (rn_ev ..).trans (ev_gk rfl)
theorem x221_29 (l0 : Value) (s0 : Int32) (H : HS) : rn 221 29 [l0] [.int s0] H = rn 221 30 [l0] [.double (FP.i2d s0)] H := rn_nx rfl
theorem x221_30 (l0 : Nat) (s0 : UInt64) (H : HS) : rn 221 30 [.ref l0] [.double s0] H = rn 221 31 [.ref l0] [.ref l0, .double s0] H := rn_nx rfl
theorem x221_31 (l0 : Value) (s0 : Nat) (s1 : UInt64) (H : HS) : rn 221 31 [l0] [.ref s0, .double s1] H = gk 221 34 [l0] [.double s1] H (gfd H 5 0 s0) := (rn_ev ..).trans (ev_gk rfl)
theorem x221_34 (l0 : Value) (s0 : Nat) (s1 : UInt64) (H : HS) : rn 221 34 [l0] [.ref s0, .double s1] H = rn 221 35 [l0] [.int 4, .ref s0, .double s1] H := rn_nx rfl
theorem x221_35 (l0 : Value) (s0 : Int32) (s1 : Nat) (s2 : UInt64) (H : HS) : rn 221 35 [l0] [.int s0, .ref s1, .double s2] H = gk 221 36 [l0] [.double s2] H (ald H 100 s1 s0) := (rn_ev ..).trans (ev_gk rfl)
theorem x221_36 (l0 : Value) (s0 : Int32) (s1 : UInt64) (H : HS) : rn 221 36 [l0] [.int s0, .double s1] H = rn 221 37 [l0] [.double (FP.i2d s0), .double s1] H := rn_nx rfl
theorem x221_37 (l0 : Value) (s0 : UInt64) (s1 : UInt64) (H : HS) (h : FP.ddiv s1 s0 &&& 0x7fffffffffffffff ≤ 0x7ff0000000000000) : rn 221 37 [l0] [.double s0, .double s1] H = rn 221 38 [l0] [.double (FP.ddiv s1 s0)] H := (rn_ev ..).trans (ev_ifp h rfl)
theorem x221_38 (l0 : Value) (s0 : UInt64) (H : HS) : rn 221 38 [l0] [.double s0] H = some (.inl (some (.double s0)), H) := rn_end rfl
theorem c221 (a0 : Nat) (H : HS) : rcal 221 [.ref a0] H = rn 221 0 [.ref a0] [] H := rfl
theorem x222_0 (l0 : Nat) (H : HS) : rn 222 0 [.ref l0] [] H = rn 222 1 [.ref l0] [.ref l0] H := rn_nx rfl
theorem x222_1 (l0 : Value) (s0 : Nat) (H : HS) : rn 222 1 [l0] [.ref s0] H = rn 222 2 [l0] [.int 0, .ref s0] H := rn_nx rfl
theorem x222_2 (l0 : Value) (s0 : Int32) (s1 : Nat) (H : HS) : rn 222 2 [l0] [.int s0, .ref s1] H = pk 222 5 [l0] [] (pfd H true 5 9 s1 (.int s0)) := (rn_ev ..).trans (ev_pk rfl)
theorem x222_5 (l0 : Nat) (H : HS) : rn 222 5 [.ref l0] [] H = rn 222 6 [.ref l0] [.ref l0] H := rn_nx rfl
theorem x222_6 (l0 : Value) (s0 : Nat) (H : HS) : rn 222 6 [l0] [.ref s0] H = gk 222 9 [l0] [] H (gfd H 5 0 s0) := (rn_ev ..).trans (ev_gk rfl)
theorem x222_9 (l0 : Value) (s0 : Nat) (H : HS) : rn 222 9 [l0] [.ref s0] H = rn 222 10 [l0] [.int 4, .ref s0] H := rn_nx rfl
theorem x222_10 (l0 : Value) (s0 : Int32) (s1 : Nat) (H : HS) : rn 222 10 [l0] [.int s0, .ref s1] H = gk 222 11 [l0] [] H (ald H 100 s1 s0) := (rn_ev ..).trans (ev_gk rfl)
theorem x222_11 (l0 : Value) (s0 : Int32) (H : HS) : rn 222 11 [l0] [.int s0] H = if s0 = 0 then rn 222 14 [l0] [] H else rn 222 22 [l0] [] H := (rn_ev ..).trans (ev_bin rfl)
theorem x222_14 (l0 : Nat) (H : HS) : rn 222 14 [.ref l0] [] H = rn 222 15 [.ref l0] [.ref l0] H := rn_nx rfl
theorem x222_15 (l0 : Value) (s0 : Nat) (H : HS) : rn 222 15 [l0] [.ref s0] H = rn 222 16 [l0] [.int 1, .ref s0] H := rn_nx rfl
theorem x222_16 (l0 : Value) (s0 : Int32) (s1 : Nat) (H : HS) (h : recv H s1 5 = true) : rn 222 16 [l0] [.int s0, .ref s1] H = bnd true 222 16 [l0] [] (rcal 150 [.ref s1, .int s0] H) := rn_cal (vcal h rfl)
theorem x222_19 (l0 : Value) (s0 : Int32) (H : HS) : rn 222 19 [l0] [.int s0] H = rn 222 20 [l0] [] H := rn_nx rfl
theorem x222_20 (l0 : Value) (H : HS) : rn 222 20 [l0] [] H = rn 222 21 [l0] [.float FP.fconst0] H := rn_nx rfl
theorem x222_21 (l0 : Value) (s0 : UInt32) (H : HS) : rn 222 21 [l0] [.float s0] H = some (.inl (some (.float s0)), H) := rn_end rfl
theorem x222_22 (l0 : Nat) (H : HS) : rn 222 22 [.ref l0] [] H = rn 222 23 [.ref l0] [.ref l0] H := rn_nx rfl
theorem x222_23 (l0 : Value) (s0 : Nat) (H : HS) : rn 222 23 [l0] [.ref s0] H = gk 222 26 [l0] [] H (gfd H 5 0 s0) := (rn_ev ..).trans (ev_gk rfl)
theorem x222_26 (l0 : Value) (s0 : Nat) (H : HS) : rn 222 26 [l0] [.ref s0] H = rn 222 28 [l0] [.int 7, .ref s0] H := rn_nx rfl
theorem x222_28 (l0 : Value) (s0 : Int32) (s1 : Nat) (H : HS) : rn 222 28 [l0] [.int s0, .ref s1] H = gk 222 29 [l0] [] H (ald H 100 s1 s0) := (rn_ev ..).trans (ev_gk rfl)
theorem x222_29 (l0 : Value) (s0 : Int32) (H : HS) : rn 222 29 [l0] [.int s0] H = rn 222 30 [l0] [.float (FP.i2f s0)] H := rn_nx rfl
theorem x222_30 (l0 : Nat) (s0 : UInt32) (H : HS) : rn 222 30 [.ref l0] [.float s0] H = rn 222 31 [.ref l0] [.ref l0, .float s0] H := rn_nx rfl
theorem x222_31 (l0 : Value) (s0 : Nat) (s1 : UInt32) (H : HS) : rn 222 31 [l0] [.ref s0, .float s1] H = gk 222 34 [l0] [.float s1] H (gfd H 5 0 s0) := (rn_ev ..).trans (ev_gk rfl)
theorem x222_34 (l0 : Value) (s0 : Nat) (s1 : UInt32) (H : HS) : rn 222 34 [l0] [.ref s0, .float s1] H = rn 222 35 [l0] [.int 4, .ref s0, .float s1] H := rn_nx rfl
theorem x222_35 (l0 : Value) (s0 : Int32) (s1 : Nat) (s2 : UInt32) (H : HS) : rn 222 35 [l0] [.int s0, .ref s1, .float s2] H = gk 222 36 [l0] [.float s2] H (ald H 100 s1 s0) := (rn_ev ..).trans (ev_gk rfl)
theorem x222_36 (l0 : Value) (s0 : Int32) (s1 : UInt32) (H : HS) : rn 222 36 [l0] [.int s0, .float s1] H = rn 222 37 [l0] [.float (FP.i2f s0), .float s1] H := rn_nx rfl
theorem x222_37 (l0 : Value) (s0 : UInt32) (s1 : UInt32) (H : HS) (h : FP.fdiv s1 s0 &&& 0x7fffffff ≤ 0x7f800000) : rn 222 37 [l0] [.float s0, .float s1] H = rn 222 38 [l0] [.float (FP.fdiv s1 s0)] H := (rn_ev ..).trans (ev_ifp h rfl)
theorem x222_38 (l0 : Value) (s0 : UInt32) (H : HS) : rn 222 38 [l0] [.float s0] H = some (.inl (some (.float s0)), H) := rn_end rfl
theorem c222 (a0 : Nat) (H : HS) : rcal 222 [.ref a0] H = rn 222 0 [.ref a0] [] H := rfl
theorem x223_0 (l0 : Nat) (H : HS) : rn 223 0 [.ref l0] [] H = rn 223 1 [.ref l0] [.ref l0] H := rn_nx rfl
theorem x223_1 (l0 : Value) (s0 : Nat) (H : HS) : rn 223 1 [l0] [.ref s0] H = rn 223 2 [l0] [.int 0, .ref s0] H := rn_nx rfl
theorem x223_2 (l0 : Value) (s0 : Int32) (s1 : Nat) (H : HS) : rn 223 2 [l0] [.int s0, .ref s1] H = pk 223 5 [l0] [] (pfd H true 5 9 s1 (.int s0)) := (rn_ev ..).trans (ev_pk rfl)
theorem x223_5 (l0 : Value) (H : HS) : rn 223 5 [l0] [] H = rn 223 6 [l0] [.int 1] H := rn_nx rfl
theorem x223_6 (l0 : Value) (s0 : Int32) (H : HS) : rn 223 6 [l0] [.int s0] H = if fitp 1 (.int s0) = true then some (.inl (some (.int s0)), H) else none := (rn_ev ..).trans (ev_ret rfl)
theorem c223 (a0 : Nat) (H : HS) : rcal 223 [.ref a0] H = rn 223 0 [.ref a0] [] H := rfl
theorem x224_0 (l1 : Value) (l0 : Nat) (H : HS) : rn 224 0 [.ref l0, l1] [] H = rn 224 1 [.ref l0, l1] [.ref l0] H := rn_nx rfl
theorem x224_1 (l0 l1 : Value) (s0 : Nat) (H : HS) : rn 224 1 [l0, l1] [.ref s0] H = rn 224 2 [l0, l1] [.int 0, .ref s0] H := rn_nx rfl
theorem x224_2 (l0 l1 : Value) (s0 : Int32) (s1 : Nat) (H : HS) : rn 224 2 [l0, l1] [.int s0, .ref s1] H = pk 224 5 [l0, l1] [] (pfd H true 5 9 s1 (.int s0)) := (rn_ev ..).trans (ev_pk rfl)
theorem x224_5 (l1 : Value) (l0 : Nat) (H : HS) : rn 224 5 [.ref l0, l1] [] H = rn 224 6 [.ref l0, l1] [.ref l0] H := rn_nx rfl
theorem x224_6 (l0 l1 : Value) (s0 : Nat) (H : HS) : rn 224 6 [l0, l1] [.ref s0] H = gk 224 9 [l0, l1] [] H (gfd H 5 11 s0) := (rn_ev ..).trans (ev_gk rfl)
theorem x224_9 (l0 l1 : Value) (s0 : Int32) (H : HS) : rn 224 9 [l0, l1] [.int s0] H = rn 224 11 [l0, l1] [.int 60, .int s0] H := rn_nx rfl
theorem x224_11 (l0 l1 : Value) (s0 : Int32) (s1 : Int32) (H : HS) : rn 224 11 [l0, l1] [.int s0, .int s1] H = if s1 = s0 then rn 224 14 [l0, l1] [] H else rn 224 20 [l0, l1] [] H := (rn_ev ..).trans (ev_bin rfl)
theorem x224_14 (l1 : Value) (l0 : Nat) (H : HS) : rn 224 14 [.ref l0, l1] [] H = rn 224 15 [.ref l0, l1] [.ref l0] H := rn_nx rfl
theorem x224_15 (l0 l1 : Value) (s0 : Nat) (H : HS) : rn 224 15 [l0, l1] [.ref s0] H = rn 224 16 [l0, l1] [.int 1, .ref s0] H := rn_nx rfl
theorem x224_16 (l0 l1 : Value) (s0 : Int32) (s1 : Nat) (H : HS) (h : recv H s1 5 = true) : rn 224 16 [l0, l1] [.int s0, .ref s1] H = bnd true 224 16 [l0, l1] [] (rcal 150 [.ref s1, .int s0] H) := rn_cal (vcal h rfl)
theorem x224_19 (l0 l1 : Value) (s0 : Int32) (H : HS) : rn 224 19 [l0, l1] [.int s0] H = some (.inl (some (.int s0)), H) := rn_end rfl
theorem x224_20 (l1 : Value) (l0 : Nat) (H : HS) : rn 224 20 [.ref l0, l1] [] H = rn 224 21 [.ref l0, l1] [.ref l0] H := rn_nx rfl
theorem x224_21 (l0 l1 : Value) (s0 : Nat) (H : HS) : rn 224 21 [l0, l1] [.ref s0] H = gk 224 24 [l0, l1] [] H (gfd H 5 10 s0) := (rn_ev ..).trans (ev_gk rfl)
theorem x224_24 (l1 : Value) (l0 : Nat) (s0 : Nat) (H : HS) : rn 224 24 [.ref l0, l1] [.ref s0] H = rn 224 25 [.ref l0, l1] [.ref l0, .ref s0] H := rn_nx rfl
theorem x224_25 (l0 l1 : Value) (s0 : Nat) (s1 : Nat) (H : HS) : rn 224 25 [l0, l1] [.ref s0, .ref s1] H = gk 224 28 [l0, l1] [.ref s1] H (gfd H 5 11 s0) := (rn_ev ..).trans (ev_gk rfl)
theorem x224_28 (l0 : Value) (l1 : Int32) (s0 : Int32) (s1 : Nat) (H : HS) : rn 224 28 [l0, .int l1] [.int s0, .ref s1] H = rn 224 29 [l0, .int l1] [.int l1, .int s0, .ref s1] H := rn_nx rfl
theorem x224_29 (l0 l1 : Value) (s0 : Int32) (s1 : Int32) (s2 : Nat) (H : HS) : rn 224 29 [l0, l1] [.int s0, .int s1, .ref s2] H = pk 224 30 [l0, l1] [] (ast H 100 s2 s1 (.int s0)) := (rn_ev ..).trans (ev_pk rfl)
theorem x224_30 (l1 : Value) (l0 : Nat) (H : HS) : rn 224 30 [.ref l0, l1] [] H = rn 224 31 [.ref l0, l1] [.ref l0] H := rn_nx rfl
theorem x224_31 (l0 l1 : Value) (s0 : Nat) (H : HS) : rn 224 31 [l0, l1] [.ref s0] H = rn 224 32 [l0, l1] [.ref s0, .ref s0] H := rn_nx rfl
theorem x224_32 (l0 l1 : Value) (s0 : Nat) (s1 : Nat) (H : HS) : rn 224 32 [l0, l1] [.ref s0, .ref s1] H = gk 224 35 [l0, l1] [.ref s1] H (gfd H 5 11 s0) := (rn_ev ..).trans (ev_gk rfl)
theorem x224_35 (l0 l1 : Value) (s0 : Int32) (s1 : Nat) (H : HS) : rn 224 35 [l0, l1] [.int s0, .ref s1] H = rn 224 36 [l0, l1] [.int 1, .int s0, .ref s1] H := rn_nx rfl
theorem x224_36 (l0 l1 : Value) (s0 : Int32) (s1 : Int32) (s2 : Nat) (H : HS) : rn 224 36 [l0, l1] [.int s0, .int s1, .ref s2] H = rn 224 37 [l0, l1] [.int (s1 + s0), .ref s2] H := rn_nx rfl
theorem x224_37 (l0 l1 : Value) (s0 : Int32) (s1 : Nat) (H : HS) : rn 224 37 [l0, l1] [.int s0, .ref s1] H = pk 224 40 [l0, l1] [] (pfd H true 5 11 s1 (.int s0)) := (rn_ev ..).trans (ev_pk rfl)
theorem x224_40 (l1 : Value) (l0 : Nat) (H : HS) : rn 224 40 [.ref l0, l1] [] H = rn 224 41 [.ref l0, l1] [.ref l0] H := rn_nx rfl
theorem x224_41 (l0 l1 : Value) (s0 : Nat) (H : HS) : rn 224 41 [l0, l1] [.ref s0] H = gk 224 44 [l0, l1] [] H (gfd H 5 11 s0) := (rn_ev ..).trans (ev_gk rfl)
theorem x224_44 (l0 l1 : Value) (s0 : Int32) (H : HS) : rn 224 44 [l0, l1] [.int s0] H = some (.inl (some (.int s0)), H) := rn_end rfl
theorem c224 (a0 : Nat) (a1 : Int32) (H : HS) : rcal 224 [.ref a0, .int a1] H = rn 224 0 [.ref a0, .int a1] [] H := rfl
theorem x225_0 (l0 : Nat) (H : HS) : rn 225 0 [.ref l0] [] H = rn 225 1 [.ref l0] [.ref l0] H := rn_nx rfl
theorem x225_1 (l0 : Value) (s0 : Nat) (H : HS) : rn 225 1 [l0] [.ref s0] H = gk 225 4 [l0] [] H (gfd H 5 18 s0) := (rn_ev ..).trans (ev_gk rfl)
theorem x225_4 (l0 : Nat) (s0 : Int32) (H : HS) : rn 225 4 [.ref l0] [.int s0] H = rn 225 5 [.ref l0] [.ref l0, .int s0] H := rn_nx rfl
theorem x225_5 (l0 : Value) (s0 : Nat) (s1 : Int32) (H : HS) : rn 225 5 [l0] [.ref s0, .int s1] H = gk 225 8 [l0] [.int s1] H (gfd H 5 19 s0) := (rn_ev ..).trans (ev_gk rfl)
theorem x225_8 (l0 : Value) (s0 : Int32) (s1 : Int32) (H : HS) : rn 225 8 [l0] [.int s0, .int s1] H = if s1 < s0 then rn 225 11 [l0] [] H else rn 225 23 [l0] [] H := (rn_ev ..).trans (ev_bin rfl)
theorem x225_11 (l0 : Nat) (H : HS) : rn 225 11 [.ref l0] [] H = rn 225 12 [.ref l0] [.ref l0] H := rn_nx rfl
theorem x225_12 (l0 : Value) (s0 : Nat) (H : HS) : rn 225 12 [l0] [.ref s0] H = gk 225 15 [l0] [] H (gfd H 5 10 s0) := (rn_ev ..).trans (ev_gk rfl)
theorem x225_15 (l0 : Nat) (s0 : Nat) (H : HS) : rn 225 15 [.ref l0] [.ref s0] H = rn 225 16 [.ref l0] [.ref l0, .ref s0] H := rn_nx rfl
theorem x225_16 (l0 : Value) (s0 : Nat) (s1 : Nat) (H : HS) : rn 225 16 [l0] [.ref s0, .ref s1] H = gk 225 19 [l0] [.ref s1] H (gfd H 5 18 s0) := (rn_ev ..).trans (ev_gk rfl)
theorem x225_19 (l0 : Value) (s0 : Int32) (s1 : Nat) (H : HS) : rn 225 19 [l0] [.int s0, .ref s1] H = gk 225 20 [l0] [] H (ald H 100 s1 s0) := (rn_ev ..).trans (ev_gk rfl)
theorem x225_20 (l0 : Value) (s0 : Int32) (H : HS) : rn 225 20 [l0] [.int s0] H = rn 225 24 [l0] [.int s0] H := rn_nx rfl
theorem x225_24 (l0 : Value) (s0 : Int32) (H : HS) : rn 225 24 [l0] [.int s0] H = some (.inl (some (.int s0)), H) := rn_end rfl
theorem x225_23 (l0 : Value) (H : HS) : rn 225 23 [l0] [] H = rn 225 24 [l0] [.int (-1)] H := rn_nx rfl
theorem c225 (a0 : Nat) (H : HS) : rcal 225 [.ref a0] H = rn 225 0 [.ref a0] [] H := rfl
theorem x226_0 (l1 : Value) (l0 : Nat) (H : HS) : rn 226 0 [.ref l0, l1] [] H = rn 226 1 [.ref l0, l1] [.ref l0] H := rn_nx rfl
theorem x226_1 (l1 : Value) (l0 : Nat) (s0 : Nat) (H : HS) : rn 226 1 [.ref l0, l1] [.ref s0] H = rn 226 2 [.ref l0, l1] [.ref l0, .ref s0] H := rn_nx rfl
theorem x226_2 (l0 l1 : Value) (s0 : Nat) (s1 : Nat) (H : HS) : rn 226 2 [l0, l1] [.ref s0, .ref s1] H = gk 226 5 [l0, l1] [.ref s1] H (gfd H 5 20 s0) := (rn_ev ..).trans (ev_gk rfl)
theorem x226_5 (l0 l1 : Value) (s0 : Int32) (s1 : Nat) (H : HS) : rn 226 5 [l0, l1] [.int s0, .ref s1] H = if s0 = 0 then rn 226 8 [l0, l1] [.ref s1] H else rn 226 16 [l0, l1] [.ref s1] H := (rn_ev ..).trans (ev_bin rfl)
theorem x226_8 (l1 : Value) (l0 : Nat) (s0 : Nat) (H : HS) : rn 226 8 [.ref l0, l1] [.ref s0] H = rn 226 9 [.ref l0, l1] [.ref l0, .ref s0] H := rn_nx rfl
theorem x226_9 (l0 l1 : Value) (s0 : Nat) (s1 : Nat) (H : HS) (h : recv H s0 5 = true) : rn 226 9 [l0, l1] [.ref s0, .ref s1] H = bnd true 226 9 [l0, l1] [.ref s1] (rcal 225 [.ref s0] H) := rn_cal (vcal h rfl)
theorem x226_12 (l0 : Value) (l1 : Int32) (s0 : Int32) (s1 : Nat) (H : HS) : rn 226 12 [l0, .int l1] [.int s0, .ref s1] H = rn 226 13 [l0, .int l1] [.int l1, .int s0, .ref s1] H := rn_nx rfl
theorem x226_13 (l0 l1 : Value) (s0 : Int32) (s1 : Int32) (s2 : Nat) (H : HS) : rn 226 13 [l0, l1] [.int s0, .int s1, .ref s2] H = if s1 = s0 then rn 226 20 [l0, l1] [.ref s2] H else rn 226 16 [l0, l1] [.ref s2] H := (rn_ev ..).trans (ev_bif rfl)
theorem x226_16 (l0 l1 : Value) (s0 : Nat) (H : HS) : rn 226 16 [l0, l1] [.ref s0] H = rn 226 17 [l0, l1] [.int 1, .ref s0] H := rn_nx rfl
theorem x226_17 (l0 l1 : Value) (s0 : Int32) (s1 : Nat) (H : HS) : rn 226 17 [l0, l1] [.int s0, .ref s1] H = rn 226 21 [l0, l1] [.int s0, .ref s1] H := rn_nx rfl
theorem x226_21 (l0 l1 : Value) (s0 : Int32) (s1 : Nat) (H : HS) : rn 226 21 [l0, l1] [.int s0, .ref s1] H = pk 226 24 [l0, l1] [] (pfd H true 5 20 s1 (.int s0)) := (rn_ev ..).trans (ev_pk rfl)
theorem x226_24 (l1 : Value) (l0 : Nat) (H : HS) : rn 226 24 [.ref l0, l1] [] H = rn 226 25 [.ref l0, l1] [.ref l0] H := rn_nx rfl
theorem x226_25 (l0 l1 : Value) (s0 : Nat) (H : HS) : rn 226 25 [l0, l1] [.ref s0] H = rn 226 26 [l0, l1] [.ref s0, .ref s0] H := rn_nx rfl
theorem x226_26 (l0 l1 : Value) (s0 : Nat) (s1 : Nat) (H : HS) : rn 226 26 [l0, l1] [.ref s0, .ref s1] H = gk 226 29 [l0, l1] [.ref s1] H (gfd H 5 18 s0) := (rn_ev ..).trans (ev_gk rfl)
theorem x226_29 (l1 : Value) (l0 : Nat) (s0 : Int32) (s1 : Nat) (H : HS) : rn 226 29 [.ref l0, l1] [.int s0, .ref s1] H = rn 226 30 [.ref l0, l1] [.ref l0, .int s0, .ref s1] H := rn_nx rfl
theorem x226_30 (l0 l1 : Value) (s0 : Nat) (s1 : Int32) (s2 : Nat) (H : HS) : rn 226 30 [l0, l1] [.ref s0, .int s1, .ref s2] H = gk 226 33 [l0, l1] [.int s1, .ref s2] H (gfd H 5 20 s0) := (rn_ev ..).trans (ev_gk rfl)
theorem x226_33 (l0 l1 : Value) (s0 : Int32) (s1 : Int32) (s2 : Nat) (H : HS) : rn 226 33 [l0, l1] [.int s0, .int s1, .ref s2] H = if s0 = 0 then rn 226 40 [l0, l1] [.int s1, .ref s2] H else rn 226 36 [l0, l1] [.int s1, .ref s2] H := (rn_ev ..).trans (ev_bif rfl)
theorem x226_36 (l0 l1 : Value) (s0 : Int32) (s1 : Nat) (H : HS) : rn 226 36 [l0, l1] [.int s0, .ref s1] H = rn 226 37 [l0, l1] [.int 0, .int s0, .ref s1] H := rn_nx rfl
theorem x226_37 (l0 l1 : Value) (s0 : Int32) (s1 : Int32) (s2 : Nat) (H : HS) : rn 226 37 [l0, l1] [.int s0, .int s1, .ref s2] H = rn 226 41 [l0, l1] [.int s0, .int s1, .ref s2] H := rn_nx rfl
theorem x226_41 (l0 l1 : Value) (s0 : Int32) (s1 : Int32) (s2 : Nat) (H : HS) : rn 226 41 [l0, l1] [.int s0, .int s1, .ref s2] H = rn 226 42 [l0, l1] [.int (s1 + s0), .ref s2] H := rn_nx rfl
theorem x226_42 (l0 l1 : Value) (s0 : Int32) (s1 : Nat) (H : HS) : rn 226 42 [l0, l1] [.int s0, .ref s1] H = pk 226 45 [l0, l1] [] (pfd H true 5 18 s1 (.int s0)) := (rn_ev ..).trans (ev_pk rfl)
theorem x226_45 (l0 l1 : Value) (H : HS) : rn 226 45 [l0, l1] [] H = some (.inl none, H) := rn_end rfl
theorem x226_40 (l0 l1 : Value) (s0 : Int32) (s1 : Nat) (H : HS) : rn 226 40 [l0, l1] [.int s0, .ref s1] H = rn 226 41 [l0, l1] [.int 1, .int s0, .ref s1] H := rn_nx rfl
theorem x226_20 (l0 l1 : Value) (s0 : Nat) (H : HS) : rn 226 20 [l0, l1] [.ref s0] H = rn 226 21 [l0, l1] [.int 0, .ref s0] H := rn_nx rfl
theorem c226 (a0 : Nat) (a1 : Int32) (H : HS) : rcal 226 [.ref a0, .int a1] H = rn 226 0 [.ref a0, .int a1] [] H := rfl
theorem x227_0 (l1 : Value) (l0 : Nat) (H : HS) : rn 227 0 [.ref l0, l1] [] H = rn 227 1 [.ref l0, l1] [.ref l0] H := rn_nx rfl
theorem x227_1 (l1 : Value) (l0 : Nat) (s0 : Nat) (H : HS) : rn 227 1 [.ref l0, l1] [.ref s0] H = rn 227 2 [.ref l0, l1] [.ref l0, .ref s0] H := rn_nx rfl
theorem x227_2 (l0 l1 : Value) (s0 : Nat) (s1 : Nat) (H : HS) : rn 227 2 [l0, l1] [.ref s0, .ref s1] H = gk 227 5 [l0, l1] [.ref s1] H (gfd H 5 20 s0) := (rn_ev ..).trans (ev_gk rfl)
theorem x227_5 (l0 l1 : Value) (s0 : Int32) (s1 : Nat) (H : HS) : rn 227 5 [l0, l1] [.int s0, .ref s1] H = if s0 = 0 then rn 227 8 [l0, l1] [.ref s1] H else rn 227 25 [l0, l1] [.ref s1] H := (rn_ev ..).trans (ev_bin rfl)
theorem x227_8 (l1 : Value) (l0 : Nat) (s0 : Nat) (H : HS) : rn 227 8 [.ref l0, l1] [.ref s0] H = rn 227 9 [.ref l0, l1] [.ref l0, .ref s0] H := rn_nx rfl
theorem x227_9 (l0 l1 : Value) (s0 : Nat) (s1 : Nat) (H : HS) (h : recv H s0 5 = true) : rn 227 9 [l0, l1] [.ref s0, .ref s1] H = bnd true 227 9 [l0, l1] [.ref s1] (rcal 225 [.ref s0] H) := rn_cal (vcal h rfl)
theorem x227_12 (l0 l1 : Value) (s0 : Int32) (s1 : Nat) (H : HS) : rn 227 12 [l0, l1] [.int s0, .ref s1] H = rn 227 13 [l0, l1] [.long s0.toInt64, .ref s1] H := rn_nx rfl
theorem x227_13 (l0 l1 : Value) (s0 : Int64) (s1 : Nat) (H : HS) : rn 227 13 [l0, l1] [.long s0, .ref s1] H = rn 227 16 [l0, l1] [.long 48, .long s0, .ref s1] H := rn_nx rfl
theorem x227_16 (l0 l1 : Value) (s0 : Int64) (s1 : Int64) (s2 : Nat) (H : HS) : rn 227 16 [l0, l1] [.long s0, .long s1, .ref s2] H = rn 227 19 [l0, l1] [.long 57, .long s0, .long s1, .ref s2] H := rn_nx rfl
theorem x227_19 (l0 l1 : Value) (s0 : Int64) (s1 : Int64) (s2 : Int64) (s3 : Nat) (H : HS) : rn 227 19 [l0, l1] [.long s0, .long s1, .long s2, .ref s3] H = bnd true 227 19 [l0, l1] [.ref s3] (rcal 151 [.long s2, .long s1, .long s0] H) := rn_cal rfl
theorem x227_22 (l0 l1 : Value) (s0 : Int32) (s1 : Nat) (H : HS) : rn 227 22 [l0, l1] [.int s0, .ref s1] H = if s0 = 0 then rn 227 25 [l0, l1] [.ref s1] H else rn 227 29 [l0, l1] [.ref s1] H := (rn_ev ..).trans (ev_bin rfl)
theorem x227_25 (l0 l1 : Value) (s0 : Nat) (H : HS) : rn 227 25 [l0, l1] [.ref s0] H = rn 227 26 [l0, l1] [.int 1, .ref s0] H := rn_nx rfl
theorem x227_26 (l0 l1 : Value) (s0 : Int32) (s1 : Nat) (H : HS) : rn 227 26 [l0, l1] [.int s0, .ref s1] H = rn 227 30 [l0, l1] [.int s0, .ref s1] H := rn_nx rfl
theorem x227_30 (l0 l1 : Value) (s0 : Int32) (s1 : Nat) (H : HS) : rn 227 30 [l0, l1] [.int s0, .ref s1] H = pk 227 33 [l0, l1] [] (pfd H true 5 20 s1 (.int s0)) := (rn_ev ..).trans (ev_pk rfl)
theorem x227_33 (l1 : Value) (l0 : Nat) (H : HS) : rn 227 33 [.ref l0, l1] [] H = rn 227 34 [.ref l0, l1] [.ref l0] H := rn_nx rfl
theorem x227_34 (l0 l1 : Value) (s0 : Nat) (H : HS) : rn 227 34 [l0, l1] [.ref s0] H = gk 227 37 [l0, l1] [] H (gfd H 5 20 s0) := (rn_ev ..).trans (ev_gk rfl)
theorem x227_37 (l0 l1 : Value) (s0 : Int32) (H : HS) : rn 227 37 [l0, l1] [.int s0] H = if s0 = 0 then rn 227 44 [l0, l1] [] H else rn 227 40 [l0, l1] [] H := (rn_ev ..).trans (ev_bif rfl)
theorem x227_40 (l0 l1 : Value) (H : HS) : rn 227 40 [l0, l1] [] H = rn 227 41 [l0, l1] [.int 0] H := rn_nx rfl
theorem x227_41 (l0 l1 : Value) (s0 : Int32) (H : HS) : rn 227 41 [l0, l1] [.int s0] H = rn 227 51 [l0, l1] [.int s0] H := rn_nx rfl
theorem x227_51 (l0 l1 : Value) (s0 : Int32) (H : HS) : rn 227 51 [l0, l1] [.int s0] H = rn 227 52 [(kl l0), .int s0] [] H := rn_nx rfl
theorem x227_52 (l1 : Value) (l0 : Nat) (H : HS) : rn 227 52 [.ref l0, l1] [] H = rn 227 53 [.ref l0, l1] [.ref l0] H := rn_nx rfl
theorem x227_53 (l0 l1 : Value) (s0 : Nat) (H : HS) : rn 227 53 [l0, l1] [.ref s0] H = rn 227 54 [l0, l1] [.ref s0, .ref s0] H := rn_nx rfl
theorem x227_54 (l0 l1 : Value) (s0 : Nat) (s1 : Nat) (H : HS) : rn 227 54 [l0, l1] [.ref s0, .ref s1] H = gk 227 57 [l0, l1] [.ref s1] H (gfd H 5 18 s0) := (rn_ev ..).trans (ev_gk rfl)
theorem x227_57 (l1 : Value) (l0 : Nat) (s0 : Int32) (s1 : Nat) (H : HS) : rn 227 57 [.ref l0, l1] [.int s0, .ref s1] H = rn 227 58 [.ref l0, l1] [.ref l0, .int s0, .ref s1] H := rn_nx rfl
theorem x227_58 (l0 l1 : Value) (s0 : Nat) (s1 : Int32) (s2 : Nat) (H : HS) : rn 227 58 [l0, l1] [.ref s0, .int s1, .ref s2] H = gk 227 61 [l0, l1] [.int s1, .ref s2] H (gfd H 5 20 s0) := (rn_ev ..).trans (ev_gk rfl)
theorem x227_61 (l0 l1 : Value) (s0 : Int32) (s1 : Int32) (s2 : Nat) (H : HS) : rn 227 61 [l0, l1] [.int s0, .int s1, .ref s2] H = if s0 = 0 then rn 227 68 [l0, l1] [.int s1, .ref s2] H else rn 227 64 [l0, l1] [.int s1, .ref s2] H := (rn_ev ..).trans (ev_bif rfl)
theorem x227_64 (l0 l1 : Value) (s0 : Int32) (s1 : Nat) (H : HS) : rn 227 64 [l0, l1] [.int s0, .ref s1] H = rn 227 65 [l0, l1] [.int 0, .int s0, .ref s1] H := rn_nx rfl
theorem x227_65 (l0 l1 : Value) (s0 : Int32) (s1 : Int32) (s2 : Nat) (H : HS) : rn 227 65 [l0, l1] [.int s0, .int s1, .ref s2] H = rn 227 69 [l0, l1] [.int s0, .int s1, .ref s2] H := rn_nx rfl
theorem x227_69 (l0 l1 : Value) (s0 : Int32) (s1 : Int32) (s2 : Nat) (H : HS) : rn 227 69 [l0, l1] [.int s0, .int s1, .ref s2] H = rn 227 70 [l0, l1] [.int (s1 + s0), .ref s2] H := rn_nx rfl
theorem x227_70 (l0 l1 : Value) (s0 : Int32) (s1 : Nat) (H : HS) : rn 227 70 [l0, l1] [.int s0, .ref s1] H = pk 227 73 [l0, l1] [] (pfd H true 5 18 s1 (.int s0)) := (rn_ev ..).trans (ev_pk rfl)
theorem x227_73 (l0 : Value) (l1 : Int32) (H : HS) : rn 227 73 [l0, .int l1] [] H = rn 227 74 [l0, .int l1] [.int l1] H := rn_nx rfl
theorem x227_74 (l0 l1 : Value) (s0 : Int32) (H : HS) : rn 227 74 [l0, l1] [.int s0] H = some (.inl (some (.int s0)), H) := rn_end rfl
theorem x227_68 (l0 l1 : Value) (s0 : Int32) (s1 : Nat) (H : HS) : rn 227 68 [l0, l1] [.int s0, .ref s1] H = rn 227 69 [l0, l1] [.int 1, .int s0, .ref s1] H := rn_nx rfl
theorem x227_44 (l1 : Value) (l0 : Nat) (H : HS) : rn 227 44 [.ref l0, l1] [] H = rn 227 45 [.ref l0, l1] [.ref l0] H := rn_nx rfl
theorem x227_45 (l0 l1 : Value) (s0 : Nat) (H : HS) (h : recv H s0 5 = true) : rn 227 45 [l0, l1] [.ref s0] H = bnd true 227 45 [l0, l1] [] (rcal 225 [.ref s0] H) := rn_cal (vcal h rfl)
theorem x227_48 (l0 l1 : Value) (s0 : Int32) (H : HS) : rn 227 48 [l0, l1] [.int s0] H = rn 227 50 [l0, l1] [.int 48, .int s0] H := rn_nx rfl
theorem x227_50 (l0 l1 : Value) (s0 : Int32) (s1 : Int32) (H : HS) : rn 227 50 [l0, l1] [.int s0, .int s1] H = rn 227 51 [l0, l1] [.int (s1 - s0)] H := rn_nx rfl
theorem x227_29 (l0 l1 : Value) (s0 : Nat) (H : HS) : rn 227 29 [l0, l1] [.ref s0] H = rn 227 30 [l0, l1] [.int 0, .ref s0] H := rn_nx rfl
theorem c227 (a0 : Nat) (H : HS) : rcal 227 [.ref a0] H = rn 227 0 [.ref a0, un] [] H := rfl
theorem x228_0 (l1 : Value) (l0 : Nat) (H : HS) : rn 228 0 [.ref l0, l1] [] H = rn 228 1 [.ref l0, l1] [.ref l0] H := rn_nx rfl
theorem x228_1 (l0 l1 : Value) (s0 : Nat) (H : HS) (h : recv H s0 5 = true) : rn 228 1 [l0, l1] [.ref s0] H = bnd true 228 1 [l0, l1] [] (rcal 227 [.ref s0] H) := rn_cal (vcal h rfl)
theorem x228_4 (l0 l1 : Value) (s0 : Int32) (H : HS) : rn 228 4 [l0, l1] [.int s0] H = rn 228 5 [(kl l0), .int s0] [] H := rn_nx rfl
theorem x228_5 (l1 : Value) (l0 : Nat) (H : HS) : rn 228 5 [.ref l0, l1] [] H = rn 228 6 [.ref l0, l1] [.ref l0] H := rn_nx rfl
theorem x228_6 (l0 l1 : Value) (s0 : Nat) (H : HS) : rn 228 6 [l0, l1] [.ref s0] H = gk 228 9 [l0, l1] [] H (gfd H 5 20 s0) := (rn_ev ..).trans (ev_gk rfl)
theorem x228_9 (l0 l1 : Value) (s0 : Int32) (H : HS) : rn 228 9 [l0, l1] [.int s0] H = if s0 = 0 then rn 228 12 [l0, l1] [] H else rn 228 41 [l0, l1] [] H := (rn_ev ..).trans (ev_bin rfl)
theorem x228_12 (l1 : Value) (l0 : Nat) (H : HS) : rn 228 12 [.ref l0, l1] [] H = rn 228 13 [.ref l0, l1] [.ref l0] H := rn_nx rfl
theorem x228_13 (l0 l1 : Value) (s0 : Nat) (H : HS) (h : recv H s0 5 = true) : rn 228 13 [l0, l1] [.ref s0] H = bnd true 228 13 [l0, l1] [] (rcal 225 [.ref s0] H) := rn_cal (vcal h rfl)
theorem x228_16 (l0 l1 : Value) (s0 : Int32) (H : HS) : rn 228 16 [l0, l1] [.int s0] H = rn 228 17 [l0, l1] [.long s0.toInt64] H := rn_nx rfl
theorem x228_17 (l0 l1 : Value) (s0 : Int64) (H : HS) : rn 228 17 [l0, l1] [.long s0] H = rn 228 20 [l0, l1] [.long 48, .long s0] H := rn_nx rfl
theorem x228_20 (l0 l1 : Value) (s0 : Int64) (s1 : Int64) (H : HS) : rn 228 20 [l0, l1] [.long s0, .long s1] H = rn 228 23 [l0, l1] [.long 57, .long s0, .long s1] H := rn_nx rfl
theorem x228_23 (l0 l1 : Value) (s0 : Int64) (s1 : Int64) (s2 : Int64) (H : HS) : rn 228 23 [l0, l1] [.long s0, .long s1, .long s2] H = bnd true 228 23 [l0, l1] [] (rcal 151 [.long s2, .long s1, .long s0] H) := rn_cal rfl
theorem x228_26 (l0 l1 : Value) (s0 : Int32) (H : HS) : rn 228 26 [l0, l1] [.int s0] H = if s0 = 0 then rn 228 41 [l0, l1] [] H else rn 228 29 [l0, l1] [] H := (rn_ev ..).trans (ev_bif rfl)
theorem x228_29 (l0 l1 : Value) (H : HS) : rn 228 29 [l0, l1] [] H = rn 228 31 [l0, l1] [.int 10] H := rn_nx rfl
theorem x228_31 (l0 : Value) (l1 : Int32) (s0 : Int32) (H : HS) : rn 228 31 [l0, .int l1] [.int s0] H = rn 228 32 [l0, .int l1] [.int l1, .int s0] H := rn_nx rfl
theorem x228_32 (l0 l1 : Value) (s0 : Int32) (s1 : Int32) (H : HS) : rn 228 32 [l0, l1] [.int s0, .int s1] H = rn 228 33 [l0, l1] [.int (s1 * s0)] H := rn_nx rfl
theorem x228_33 (l1 : Value) (l0 : Nat) (s0 : Int32) (H : HS) : rn 228 33 [.ref l0, l1] [.int s0] H = rn 228 34 [.ref l0, l1] [.ref l0, .int s0] H := rn_nx rfl
theorem x228_34 (l0 l1 : Value) (s0 : Nat) (s1 : Int32) (H : HS) (h : recv H s0 5 = true) : rn 228 34 [l0, l1] [.ref s0, .int s1] H = bnd true 228 34 [l0, l1] [.int s1] (rcal 227 [.ref s0] H) := rn_cal (vcal h rfl)
theorem x228_37 (l0 l1 : Value) (s0 : Int32) (s1 : Int32) (H : HS) : rn 228 37 [l0, l1] [.int s0, .int s1] H = rn 228 38 [l0, l1] [.int (s1 + s0)] H := rn_nx rfl
theorem x228_38 (l0 l1 : Value) (s0 : Int32) (H : HS) : rn 228 38 [l0, l1] [.int s0] H = rn 228 42 [l0, l1] [.int s0] H := rn_nx rfl
theorem x228_42 (l0 l1 : Value) (s0 : Int32) (H : HS) : rn 228 42 [l0, l1] [.int s0] H = some (.inl (some (.int s0)), H) := rn_end rfl
theorem x228_41 (l0 : Value) (l1 : Int32) (H : HS) : rn 228 41 [l0, .int l1] [] H = rn 228 42 [l0, .int l1] [.int l1] H := rn_nx rfl
theorem c228 (a0 : Nat) (H : HS) : rcal 228 [.ref a0] H = rn 228 0 [.ref a0, un] [] H := rfl
theorem x229_0 (l0 l1 l2 l3 : Value) (H : HS) : rn 229 0 [l0, l1, l2, l3] [] H = rn 229 1 [l0, l1, l2, l3] [.int 0] H := rn_nx rfl
theorem x229_1 (l0 l1 l2 l3 : Value) (s0 : Int32) (H : HS) : rn 229 1 [l0, l1, l2, l3] [.int s0] H = rn 229 2 [l0, (kl l1), .int s0, l3] [] H := rn_nx rfl
theorem x229_2 (l1 l2 l3 : Value) (l0 : Nat) (H : HS) : rn 229 2 [.ref l0, l1, l2, l3] [] H = rn 229 3 [.ref l0, l1, l2, l3] [.ref l0] H := rn_nx rfl
theorem x229_3 (l0 l1 l2 l3 : Value) (s0 : Nat) (H : HS) : rn 229 3 [l0, l1, l2, l3] [.ref s0] H = gk 229 6 [l0, l1, l2, l3] [] H (gfd H 5 15 s0) := (rn_ev ..).trans (ev_gk rfl)
theorem x229_6 (l0 l2 l3 : Value) (l1 : Int32) (s0 : Nat) (H : HS) : rn 229 6 [l0, .int l1, l2, l3] [.ref s0] H = rn 229 7 [l0, .int l1, l2, l3] [.int l1, .ref s0] H := rn_nx rfl
theorem x229_7 (l0 l1 l2 l3 : Value) (s0 : Int32) (s1 : Nat) (H : HS) : rn 229 7 [l0, l1, l2, l3] [.int s0, .ref s1] H = rn 229 8 [l0, l1, l2, l3] [.int 1, .int s0, .ref s1] H := rn_nx rfl
theorem x229_8 (l0 l1 l2 l3 : Value) (s0 : Int32) (s1 : Int32) (s2 : Nat) (H : HS) : rn 229 8 [l0, l1, l2, l3] [.int s0, .int s1, .ref s2] H = rn 229 9 [l0, l1, l2, l3] [.int (s1 + s0), .ref s2] H := rn_nx rfl
theorem x229_9 (l0 l1 l2 l3 : Value) (s0 : Int32) (s1 : Nat) (H : HS) : rn 229 9 [l0, l1, l2, l3] [.int s0, .ref s1] H = gk 229 10 [l0, l1, l2, l3] [] H (ald H 100 s1 s0) := (rn_ev ..).trans (ev_gk rfl)
theorem x229_10 (l1 l2 l3 : Value) (l0 : Nat) (s0 : Int32) (H : HS) : rn 229 10 [.ref l0, l1, l2, l3] [.int s0] H = rn 229 11 [.ref l0, l1, l2, l3] [.ref l0, .int s0] H := rn_nx rfl
theorem x229_11 (l0 l1 l2 l3 : Value) (s0 : Nat) (s1 : Int32) (H : HS) : rn 229 11 [l0, l1, l2, l3] [.ref s0, .int s1] H = gk 229 14 [l0, l1, l2, l3] [.int s1] H (gfd H 5 15 s0) := (rn_ev ..).trans (ev_gk rfl)
theorem x229_14 (l0 l2 l3 : Value) (l1 : Int32) (s0 : Nat) (s1 : Int32) (H : HS) : rn 229 14 [l0, .int l1, l2, l3] [.ref s0, .int s1] H = rn 229 15 [l0, .int l1, l2, l3] [.int l1, .ref s0, .int s1] H := rn_nx rfl
theorem x229_15 (l0 l1 l2 l3 : Value) (s0 : Int32) (s1 : Nat) (s2 : Int32) (H : HS) : rn 229 15 [l0, l1, l2, l3] [.int s0, .ref s1, .int s2] H = gk 229 16 [l0, l1, l2, l3] [.int s2] H (ald H 100 s1 s0) := (rn_ev ..).trans (ev_gk rfl)
theorem x229_16 (l0 l1 l2 l3 : Value) (s0 : Int32) (s1 : Int32) (H : HS) : rn 229 16 [l0, l1, l2, l3] [.int s0, .int s1] H = rn 229 17 [l0, l1, l2, l3] [.int (s1 - s0)] H := rn_nx rfl
theorem x229_17 (l0 l1 l2 l3 : Value) (s0 : Int32) (H : HS) : rn 229 17 [l0, l1, l2, l3] [.int s0] H = rn 229 18 [l0, l1, (kl l2), .int s0] [] H := rn_nx rfl
theorem x229_18 (l0 l1 l3 : Value) (l2 : Int32) (H : HS) : rn 229 18 [l0, l1, .int l2, l3] [] H = rn 229 19 [l0, l1, .int l2, l3] [.int l2] H := rn_nx rfl
theorem x229_19 (l0 l1 l2 : Value) (l3 : Int32) (s0 : Int32) (H : HS) : rn 229 19 [l0, l1, l2, .int l3] [.int s0] H = rn 229 20 [l0, l1, l2, .int l3] [.int l3, .int s0] H := rn_nx rfl
theorem x229_20 (l0 l1 l2 l3 : Value) (s0 : Int32) (s1 : Int32) (H : HS) : rn 229 20 [l0, l1, l2, l3] [.int s0, .int s1] H = if s1 < s0 then rn 229 23 [l0, l1, l2, l3] [] H else rn 229 69 [l0, l1, l2, l3] [] H := (rn_ev ..).trans (ev_bin rfl)
theorem x229_23 (l1 l2 l3 : Value) (l0 : Nat) (H : HS) : rn 229 23 [.ref l0, l1, l2, l3] [] H = rn 229 24 [.ref l0, l1, l2, l3] [.ref l0] H := rn_nx rfl
theorem x229_24 (l0 l1 l2 l3 : Value) (s0 : Nat) (H : HS) : rn 229 24 [l0, l1, l2, l3] [.ref s0] H = gk 229 27 [l0, l1, l2, l3] [] H (gfd H 5 18 s0) := (rn_ev ..).trans (ev_gk rfl)
theorem x229_27 (l0 l1 l3 : Value) (l2 : Int32) (s0 : Int32) (H : HS) : rn 229 27 [l0, l1, .int l2, l3] [.int s0] H = rn 229 28 [l0, l1, .int l2, l3] [.int l2, .int s0] H := rn_nx rfl
theorem x229_28 (l0 l1 l2 l3 : Value) (s0 : Int32) (s1 : Int32) (H : HS) : rn 229 28 [l0, l1, l2, l3] [.int s0, .int s1] H = rn 229 29 [l0, l1, l2, l3] [.int (s1 + s0)] H := rn_nx rfl
theorem x229_29 (l1 l2 l3 : Value) (l0 : Nat) (s0 : Int32) (H : HS) : rn 229 29 [.ref l0, l1, l2, l3] [.int s0] H = rn 229 30 [.ref l0, l1, l2, l3] [.ref l0, .int s0] H := rn_nx rfl
theorem x229_30 (l0 l1 l2 l3 : Value) (s0 : Nat) (s1 : Int32) (H : HS) : rn 229 30 [l0, l1, l2, l3] [.ref s0, .int s1] H = gk 229 33 [l0, l1, l2, l3] [.int s1] H (gfd H 5 19 s0) := (rn_ev ..).trans (ev_gk rfl)
theorem x229_33 (l0 l1 l2 l3 : Value) (s0 : Int32) (s1 : Int32) (H : HS) : rn 229 33 [l0, l1, l2, l3] [.int s0, .int s1] H = if s1 < s0 then rn 229 36 [l0, l1, l2, l3] [] H else rn 229 69 [l0, l1, l2, l3] [] H := (rn_ev ..).trans (ev_bin rfl)
theorem x229_36 (l1 l2 l3 : Value) (l0 : Nat) (H : HS) : rn 229 36 [.ref l0, l1, l2, l3] [] H = rn 229 37 [.ref l0, l1, l2, l3] [.ref l0] H := rn_nx rfl
theorem x229_37 (l0 l1 l2 l3 : Value) (s0 : Nat) (H : HS) : rn 229 37 [l0, l1, l2, l3] [.ref s0] H = gk 229 40 [l0, l1, l2, l3] [] H (gfd H 5 10 s0) := (rn_ev ..).trans (ev_gk rfl)
theorem x229_40 (l1 l2 l3 : Value) (l0 : Nat) (s0 : Nat) (H : HS) : rn 229 40 [.ref l0, l1, l2, l3] [.ref s0] H = rn 229 41 [.ref l0, l1, l2, l3] [.ref l0, .ref s0] H := rn_nx rfl
theorem x229_41 (l0 l1 l2 l3 : Value) (s0 : Nat) (s1 : Nat) (H : HS) : rn 229 41 [l0, l1, l2, l3] [.ref s0, .ref s1] H = gk 229 44 [l0, l1, l2, l3] [.ref s1] H (gfd H 5 18 s0) := (rn_ev ..).trans (ev_gk rfl)
theorem x229_44 (l0 l1 l3 : Value) (l2 : Int32) (s0 : Int32) (s1 : Nat) (H : HS) : rn 229 44 [l0, l1, .int l2, l3] [.int s0, .ref s1] H = rn 229 45 [l0, l1, .int l2, l3] [.int l2, .int s0, .ref s1] H := rn_nx rfl
theorem x229_45 (l0 l1 l2 l3 : Value) (s0 : Int32) (s1 : Int32) (s2 : Nat) (H : HS) : rn 229 45 [l0, l1, l2, l3] [.int s0, .int s1, .ref s2] H = rn 229 46 [l0, l1, l2, l3] [.int (s1 + s0), .ref s2] H := rn_nx rfl
theorem x229_46 (l0 l1 l2 l3 : Value) (s0 : Int32) (s1 : Nat) (H : HS) : rn 229 46 [l0, l1, l2, l3] [.int s0, .ref s1] H = gk 229 47 [l0, l1, l2, l3] [] H (ald H 100 s1 s0) := (rn_ev ..).trans (ev_gk rfl)
theorem x229_47 (l1 l2 l3 : Value) (l0 : Nat) (s0 : Int32) (H : HS) : rn 229 47 [.ref l0, l1, l2, l3] [.int s0] H = rn 229 48 [.ref l0, l1, l2, l3] [.ref l0, .int s0] H := rn_nx rfl
theorem x229_48 (l0 l1 l2 l3 : Value) (s0 : Nat) (s1 : Int32) (H : HS) : rn 229 48 [l0, l1, l2, l3] [.ref s0, .int s1] H = gk 229 51 [l0, l1, l2, l3] [.int s1] H (gfd H 5 14 s0) := (rn_ev ..).trans (ev_gk rfl)
theorem x229_51 (l1 l2 l3 : Value) (l0 : Nat) (s0 : Nat) (s1 : Int32) (H : HS) : rn 229 51 [.ref l0, l1, l2, l3] [.ref s0, .int s1] H = rn 229 52 [.ref l0, l1, l2, l3] [.ref l0, .ref s0, .int s1] H := rn_nx rfl
theorem x229_52 (l0 l1 l2 l3 : Value) (s0 : Nat) (s1 : Nat) (s2 : Int32) (H : HS) : rn 229 52 [l0, l1, l2, l3] [.ref s0, .ref s1, .int s2] H = gk 229 55 [l0, l1, l2, l3] [.ref s1, .int s2] H (gfd H 5 15 s0) := (rn_ev ..).trans (ev_gk rfl)
theorem x229_55 (l0 l2 l3 : Value) (l1 : Int32) (s0 : Nat) (s1 : Nat) (s2 : Int32) (H : HS) : rn 229 55 [l0, .int l1, l2, l3] [.ref s0, .ref s1, .int s2] H = rn 229 56 [l0, .int l1, l2, l3] [.int l1, .ref s0, .ref s1, .int s2] H := rn_nx rfl
theorem x229_56 (l0 l1 l2 l3 : Value) (s0 : Int32) (s1 : Nat) (s2 : Nat) (s3 : Int32) (H : HS) : rn 229 56 [l0, l1, l2, l3] [.int s0, .ref s1, .ref s2, .int s3] H = gk 229 57 [l0, l1, l2, l3] [.ref s2, .int s3] H (ald H 100 s1 s0) := (rn_ev ..).trans (ev_gk rfl)
theorem x229_57 (l0 l1 l3 : Value) (l2 : Int32) (s0 : Int32) (s1 : Nat) (s2 : Int32) (H : HS) : rn 229 57 [l0, l1, .int l2, l3] [.int s0, .ref s1, .int s2] H = rn 229 58 [l0, l1, .int l2, l3] [.int l2, .int s0, .ref s1, .int s2] H := rn_nx rfl
theorem x229_58 (l0 l1 l2 l3 : Value) (s0 : Int32) (s1 : Int32) (s2 : Nat) (s3 : Int32) (H : HS) : rn 229 58 [l0, l1, l2, l3] [.int s0, .int s1, .ref s2, .int s3] H = rn 229 59 [l0, l1, l2, l3] [.int (s1 + s0), .ref s2, .int s3] H := rn_nx rfl
theorem x229_59 (l0 l1 l2 l3 : Value) (s0 : Int32) (s1 : Nat) (s2 : Int32) (H : HS) : rn 229 59 [l0, l1, l2, l3] [.int s0, .ref s1, .int s2] H = gk 229 60 [l0, l1, l2, l3] [.int s2] H (ald H 101 s1 s0) := (rn_ev ..).trans (ev_gk rfl)
theorem x229_60 (l0 l1 l2 l3 : Value) (s0 : Int32) (s1 : Int32) (H : HS) : rn 229 60 [l0, l1, l2, l3] [.int s0, .int s1] H = if s1 = s0 then rn 229 63 [l0, l1, l2, l3] [] H else rn 229 69 [l0, l1, l2, l3] [] H := (rn_ev ..).trans (ev_bin rfl)
theorem x229_63 (l0 l1 l3 : Value) (l2 : Int32) (H : HS) : rn 229 63 [l0, l1, .int l2, l3] [] H = rn 229 66 [l0, (kl l1), .int (l2 + 1), l3] [] H := rn_nx rfl
theorem x229_66 (l0 l1 l2 l3 : Value) (H : HS) : rn 229 66 [l0, l1, l2, l3] [] H = rn 229 18 [l0, l1, l2, l3] [] H := rn_nx rfl
theorem x229_69 (l0 l1 l3 : Value) (l2 : Int32) (H : HS) : rn 229 69 [l0, l1, .int l2, l3] [] H = rn 229 70 [l0, l1, .int l2, l3] [.int l2] H := rn_nx rfl
theorem x229_70 (l0 l1 l2 l3 : Value) (s0 : Int32) (H : HS) : rn 229 70 [l0, l1, l2, l3] [.int s0] H = some (.inl (some (.int s0)), H) := rn_end rfl
theorem c229 (a0 : Nat) (a1 : Int32) (H : HS) : rcal 229 [.ref a0, .int a1] H = rn 229 0 [.ref a0, .int a1, un, un] [] H := rfl
theorem x230_0 (l0 l2 : Value) (l1 : Int32) (H : HS) : rn 230 0 [l0, .int l1, l2] [] H = rn 230 1 [l0, .int l1, l2] [.int l1] H := rn_nx rfl
theorem x230_1 (l0 l1 l2 : Value) (s0 : Int32) (H : HS) : rn 230 1 [l0, l1, l2] [.int s0] H = rn 230 2 [l0, l1, l2] [.int 2, .int s0] H := rn_nx rfl
theorem x230_2 (l0 l1 l2 : Value) (s0 : Int32) (s1 : Int32) (H : HS) : rn 230 2 [l0, l1, l2] [.int s0, .int s1] H = if s0 < s1 then rn 230 5 [l0, l1, l2] [] H else rn 230 16 [l0, l1, l2] [] H := (rn_ev ..).trans (ev_bin rfl)
theorem x230_5 (l1 l2 : Value) (l0 : Nat) (H : HS) : rn 230 5 [.ref l0, l1, l2] [] H = rn 230 6 [.ref l0, l1, l2] [.ref l0] H := rn_nx rfl
theorem x230_6 (l0 l1 l2 : Value) (s0 : Nat) (H : HS) : rn 230 6 [l0, l1, l2] [.ref s0] H = gk 230 9 [l0, l1, l2] [] H (gfd H 5 16 s0) := (rn_ev ..).trans (ev_gk rfl)
theorem x230_9 (l0 l1 : Value) (l2 : Int32) (s0 : Nat) (H : HS) : rn 230 9 [l0, l1, .int l2] [.ref s0] H = rn 230 10 [l0, l1, .int l2] [.int l2, .ref s0] H := rn_nx rfl
theorem x230_10 (l1 l2 : Value) (l0 : Nat) (s0 : Int32) (s1 : Nat) (H : HS) : rn 230 10 [.ref l0, l1, l2] [.int s0, .ref s1] H = rn 230 11 [.ref l0, l1, l2] [.ref l0, .int s0, .ref s1] H := rn_nx rfl
theorem x230_11 (l0 l1 l2 : Value) (s0 : Nat) (s1 : Int32) (s2 : Nat) (H : HS) (h : recv H s0 5 = true) : rn 230 11 [l0, l1, l2] [.ref s0, .int s1, .ref s2] H = bnd true 230 11 [l0, l1, l2] [.int s1, .ref s2] (rcal 228 [.ref s0] H) := rn_cal (vcal h rfl)
theorem x230_14 (l0 l1 l2 : Value) (s0 : Int32) (s1 : Int32) (s2 : Nat) (H : HS) : rn 230 14 [l0, l1, l2] [.int s0, .int s1, .ref s2] H = pk 230 15 [l0, l1, l2] [] (ast H 100 s2 s1 (.int s0)) := (rn_ev ..).trans (ev_pk rfl)
theorem x230_15 (l0 l1 l2 : Value) (H : HS) : rn 230 15 [l0, l1, l2] [] H = some (.inl none, H) := rn_end rfl
theorem x230_16 (l1 l2 : Value) (l0 : Nat) (H : HS) : rn 230 16 [.ref l0, l1, l2] [] H = rn 230 17 [.ref l0, l1, l2] [.ref l0] H := rn_nx rfl
theorem x230_17 (l0 l1 l2 : Value) (s0 : Nat) (H : HS) : rn 230 17 [l0, l1, l2] [.ref s0] H = gk 230 20 [l0, l1, l2] [] H (gfd H 5 16 s0) := (rn_ev ..).trans (ev_gk rfl)
theorem x230_20 (l0 l1 : Value) (l2 : Int32) (s0 : Nat) (H : HS) : rn 230 20 [l0, l1, .int l2] [.ref s0] H = rn 230 21 [l0, l1, .int l2] [.int l2, .ref s0] H := rn_nx rfl
theorem x230_21 (l1 l2 : Value) (l0 : Nat) (s0 : Int32) (s1 : Nat) (H : HS) : rn 230 21 [.ref l0, l1, l2] [.int s0, .ref s1] H = rn 230 22 [.ref l0, l1, l2] [.ref l0, .int s0, .ref s1] H := rn_nx rfl
theorem x230_22 (l0 l1 l2 : Value) (s0 : Nat) (s1 : Int32) (s2 : Nat) (H : HS) (h : recv H s0 5 = true) : rn 230 22 [l0, l1, l2] [.ref s0, .int s1, .ref s2] H = bnd true 230 22 [l0, l1, l2] [.int s1, .ref s2] (rcal 227 [.ref s0] H) := rn_cal (vcal h rfl)
theorem x230_25 (l0 l1 l2 : Value) (s0 : Int32) (s1 : Int32) (s2 : Nat) (H : HS) : rn 230 25 [l0, l1, l2] [.int s0, .int s1, .ref s2] H = pk 230 26 [l0, l1, l2] [] (ast H 100 s2 s1 (.int s0)) := (rn_ev ..).trans (ev_pk rfl)
theorem x230_26 (l1 l2 : Value) (l0 : Nat) (H : HS) : rn 230 26 [.ref l0, l1, l2] [] H = rn 230 27 [.ref l0, l1, l2] [.ref l0] H := rn_nx rfl
theorem x230_27 (l0 l1 l2 : Value) (s0 : Nat) (H : HS) : rn 230 27 [l0, l1, l2] [.ref s0] H = rn 230 29 [l0, l1, l2] [.int 32, .ref s0] H := rn_nx rfl
theorem x230_29 (l0 l1 l2 : Value) (s0 : Int32) (s1 : Nat) (H : HS) (h : recv H s1 5 = true) : rn 230 29 [l0, l1, l2] [.int s0, .ref s1] H = bnd true 230 29 [l0, l1, l2] [] (rcal 226 [.ref s1, .int s0] H) := rn_cal (vcal h rfl)
theorem x230_32 (l1 l2 : Value) (l0 : Nat) (H : HS) : rn 230 32 [.ref l0, l1, l2] [] H = rn 230 33 [.ref l0, l1, l2] [.ref l0] H := rn_nx rfl
theorem x230_33 (l0 l1 l2 : Value) (s0 : Nat) (H : HS) : rn 230 33 [l0, l1, l2] [.ref s0] H = gk 230 36 [l0, l1, l2] [] H (gfd H 5 16 s0) := (rn_ev ..).trans (ev_gk rfl)
theorem x230_36 (l0 l1 : Value) (l2 : Int32) (s0 : Nat) (H : HS) : rn 230 36 [l0, l1, .int l2] [.ref s0] H = rn 230 37 [l0, l1, .int l2] [.int l2, .ref s0] H := rn_nx rfl
theorem x230_37 (l0 l1 l2 : Value) (s0 : Int32) (s1 : Nat) (H : HS) : rn 230 37 [l0, l1, l2] [.int s0, .ref s1] H = rn 230 38 [l0, l1, l2] [.int 1, .int s0, .ref s1] H := rn_nx rfl
theorem x230_38 (l0 l1 l2 : Value) (s0 : Int32) (s1 : Int32) (s2 : Nat) (H : HS) : rn 230 38 [l0, l1, l2] [.int s0, .int s1, .ref s2] H = rn 230 39 [l0, l1, l2] [.int (s1 + s0), .ref s2] H := rn_nx rfl
theorem x230_39 (l0 l2 : Value) (l1 : Int32) (s0 : Int32) (s1 : Nat) (H : HS) : rn 230 39 [l0, .int l1, l2] [.int s0, .ref s1] H = rn 230 40 [l0, .int l1, l2] [.int l1, .int s0, .ref s1] H := rn_nx rfl
theorem x230_40 (l0 l1 l2 : Value) (s0 : Int32) (s1 : Int32) (s2 : Nat) (H : HS) : rn 230 40 [l0, l1, l2] [.int s0, .int s1, .ref s2] H = if s0 = 0 then rn 230 43 [l0, l1, l2] [.int s1, .ref s2] H else rn 230 50 [l0, l1, l2] [.int s1, .ref s2] H := (rn_ev ..).trans (ev_bin rfl)
theorem x230_43 (l1 l2 : Value) (l0 : Nat) (s0 : Int32) (s1 : Nat) (H : HS) : rn 230 43 [.ref l0, l1, l2] [.int s0, .ref s1] H = rn 230 44 [.ref l0, l1, l2] [.ref l0, .int s0, .ref s1] H := rn_nx rfl
theorem x230_44 (l0 l1 l2 : Value) (s0 : Nat) (s1 : Int32) (s2 : Nat) (H : HS) (h : recv H s0 5 = true) : rn 230 44 [l0, l1, l2] [.ref s0, .int s1, .ref s2] H = bnd true 230 44 [l0, l1, l2] [.int s1, .ref s2] (rcal 228 [.ref s0] H) := rn_cal (vcal h rfl)
theorem x230_47 (l0 l1 l2 : Value) (s0 : Int32) (s1 : Int32) (s2 : Nat) (H : HS) : rn 230 47 [l0, l1, l2] [.int s0, .int s1, .ref s2] H = rn 230 54 [l0, l1, l2] [.int s0, .int s1, .ref s2] H := rn_nx rfl
theorem x230_54 (l0 l1 l2 : Value) (s0 : Int32) (s1 : Int32) (s2 : Nat) (H : HS) : rn 230 54 [l0, l1, l2] [.int s0, .int s1, .ref s2] H = pk 230 55 [l0, l1, l2] [] (ast H 100 s2 s1 (.int s0)) := (rn_ev ..).trans (ev_pk rfl)
theorem x230_55 (l0 l2 : Value) (l1 : Int32) (H : HS) : rn 230 55 [l0, .int l1, l2] [] H = rn 230 56 [l0, .int l1, l2] [.int l1] H := rn_nx rfl
theorem x230_56 (l0 l1 l2 : Value) (s0 : Int32) (H : HS) : rn 230 56 [l0, l1, l2] [.int s0] H = rn 230 57 [l0, l1, l2] [.int 2, .int s0] H := rn_nx rfl
theorem x230_57 (l0 l1 l2 : Value) (s0 : Int32) (s1 : Int32) (H : HS) : rn 230 57 [l0, l1, l2] [.int s0, .int s1] H = if s1 = s0 then rn 230 60 [l0, l1, l2] [] H else rn 230 78 [l0, l1, l2] [] H := (rn_ev ..).trans (ev_bin rfl)
theorem x230_60 (l1 l2 : Value) (l0 : Nat) (H : HS) : rn 230 60 [.ref l0, l1, l2] [] H = rn 230 61 [.ref l0, l1, l2] [.ref l0] H := rn_nx rfl
theorem x230_61 (l0 l1 l2 : Value) (s0 : Nat) (H : HS) : rn 230 61 [l0, l1, l2] [.ref s0] H = rn 230 63 [l0, l1, l2] [.int 32, .ref s0] H := rn_nx rfl
theorem x230_63 (l0 l1 l2 : Value) (s0 : Int32) (s1 : Nat) (H : HS) (h : recv H s1 5 = true) : rn 230 63 [l0, l1, l2] [.int s0, .ref s1] H = bnd true 230 63 [l0, l1, l2] [] (rcal 226 [.ref s1, .int s0] H) := rn_cal (vcal h rfl)
theorem x230_66 (l1 l2 : Value) (l0 : Nat) (H : HS) : rn 230 66 [.ref l0, l1, l2] [] H = rn 230 67 [.ref l0, l1, l2] [.ref l0] H := rn_nx rfl
theorem x230_67 (l0 l1 l2 : Value) (s0 : Nat) (H : HS) : rn 230 67 [l0, l1, l2] [.ref s0] H = gk 230 70 [l0, l1, l2] [] H (gfd H 5 16 s0) := (rn_ev ..).trans (ev_gk rfl)
theorem x230_70 (l0 l1 : Value) (l2 : Int32) (s0 : Nat) (H : HS) : rn 230 70 [l0, l1, .int l2] [.ref s0] H = rn 230 71 [l0, l1, .int l2] [.int l2, .ref s0] H := rn_nx rfl
theorem x230_71 (l0 l1 l2 : Value) (s0 : Int32) (s1 : Nat) (H : HS) : rn 230 71 [l0, l1, l2] [.int s0, .ref s1] H = rn 230 72 [l0, l1, l2] [.int 2, .int s0, .ref s1] H := rn_nx rfl
theorem x230_72 (l0 l1 l2 : Value) (s0 : Int32) (s1 : Int32) (s2 : Nat) (H : HS) : rn 230 72 [l0, l1, l2] [.int s0, .int s1, .ref s2] H = rn 230 73 [l0, l1, l2] [.int (s1 + s0), .ref s2] H := rn_nx rfl
theorem x230_73 (l1 l2 : Value) (l0 : Nat) (s0 : Int32) (s1 : Nat) (H : HS) : rn 230 73 [.ref l0, l1, l2] [.int s0, .ref s1] H = rn 230 74 [.ref l0, l1, l2] [.ref l0, .int s0, .ref s1] H := rn_nx rfl
theorem x230_74 (l0 l1 l2 : Value) (s0 : Nat) (s1 : Int32) (s2 : Nat) (H : HS) (h : recv H s0 5 = true) : rn 230 74 [l0, l1, l2] [.ref s0, .int s1, .ref s2] H = bnd true 230 74 [l0, l1, l2] [.int s1, .ref s2] (rcal 228 [.ref s0] H) := rn_cal (vcal h rfl)
theorem x230_77 (l0 l1 l2 : Value) (s0 : Int32) (s1 : Int32) (s2 : Nat) (H : HS) : rn 230 77 [l0, l1, l2] [.int s0, .int s1, .ref s2] H = pk 230 78 [l0, l1, l2] [] (ast H 100 s2 s1 (.int s0)) := (rn_ev ..).trans (ev_pk rfl)
theorem x230_78 (l0 l1 l2 : Value) (H : HS) : rn 230 78 [l0, l1, l2] [] H = some (.inl none, H) := rn_end rfl
theorem x230_50 (l1 l2 : Value) (l0 : Nat) (s0 : Int32) (s1 : Nat) (H : HS) : rn 230 50 [.ref l0, l1, l2] [.int s0, .ref s1] H = rn 230 51 [.ref l0, l1, l2] [.ref l0, .int s0, .ref s1] H := rn_nx rfl
theorem x230_51 (l0 l1 l2 : Value) (s0 : Nat) (s1 : Int32) (s2 : Nat) (H : HS) (h : recv H s0 5 = true) : rn 230 51 [l0, l1, l2] [.ref s0, .int s1, .ref s2] H = bnd true 230 51 [l0, l1, l2] [.int s1, .ref s2] (rcal 227 [.ref s0] H) := rn_cal (vcal h rfl)
theorem c230 (a0 : Nat) (a1 : Int32) (a2 : Int32) (H : HS) : rcal 230 [.ref a0, .int a1, .int a2] H = rn 230 0 [.ref a0, .int a1, .int a2] [] H := rfl
theorem x231_0 (l0 l1 l2 l3 : Value) (H : HS) : rn 231 0 [l0, l1, l2, l3] [] H = rn 231 1 [l0, l1, l2, l3] [.int 4] H := rn_nx rfl
theorem x231_1 (l1 l2 l3 : Value) (l0 : Nat) (s0 : Int32) (H : HS) : rn 231 1 [.ref l0, l1, l2, l3] [.int s0] H = rn 231 2 [.ref l0, l1, l2, l3] [.ref l0, .int s0] H := rn_nx rfl
theorem x231_2 (l0 l1 l2 l3 : Value) (s0 : Nat) (s1 : Int32) (H : HS) : rn 231 2 [l0, l1, l2, l3] [.ref s0, .int s1] H = gk 231 5 [l0, l1, l2, l3] [.int s1] H (gfd H 5 17 s0) := (rn_ev ..).trans (ev_gk rfl)
theorem x231_5 (l0 l1 l2 l3 : Value) (s0 : Int32) (s1 : Int32) (H : HS) : rn 231 5 [l0, l1, l2, l3] [.int s0, .int s1] H = rn 231 6 [l0, l1, l2, l3] [.int (s1 * s0)] H := rn_nx rfl
theorem x231_6 (l0 l1 l2 l3 : Value) (s0 : Int32) (H : HS) : rn 231 6 [l0, l1, l2, l3] [.int s0] H = rn 231 7 [(kl l0), .int s0, l2, l3] [] H := rn_nx rfl
theorem x231_7 (l0 l1 l2 l3 : Value) (H : HS) : rn 231 7 [l0, l1, l2, l3] [] H = rn 231 8 [l0, l1, l2, l3] [.int 0] H := rn_nx rfl
theorem x231_8 (l0 l1 l2 l3 : Value) (s0 : Int32) (H : HS) : rn 231 8 [l0, l1, l2, l3] [.int s0] H = rn 231 9 [l0, (kl l1), .int s0, l3] [] H := rn_nx rfl
theorem x231_9 (l0 l1 l2 l3 : Value) (H : HS) : rn 231 9 [l0, l1, l2, l3] [] H = rn 231 10 [l0, l1, l2, l3] [.int 1] H := rn_nx rfl
theorem x231_10 (l0 l1 l2 l3 : Value) (s0 : Int32) (H : HS) : rn 231 10 [l0, l1, l2, l3] [.int s0] H = rn 231 11 [l0, l1, (kl l2), .int s0] [] H := rn_nx rfl
theorem x231_11 (l0 l1 l2 : Value) (l3 : Int32) (H : HS) : rn 231 11 [l0, l1, l2, .int l3] [] H = rn 231 12 [l0, l1, l2, .int l3] [.int l3] H := rn_nx rfl
theorem x231_12 (l0 l1 l2 l3 : Value) (s0 : Int32) (H : HS) : rn 231 12 [l0, l1, l2, l3] [.int s0] H = rn 231 14 [l0, l1, l2, l3] [.int 7, .int s0] H := rn_nx rfl
theorem x231_14 (l0 l1 l2 l3 : Value) (s0 : Int32) (s1 : Int32) (H : HS) : rn 231 14 [l0, l1, l2, l3] [.int s0, .int s1] H = if s1 < s0 then rn 231 17 [l0, l1, l2, l3] [] H else rn 231 42 [l0, l1, l2, l3] [] H := (rn_ev ..).trans (ev_bin rfl)
theorem x231_17 (l1 l2 l3 : Value) (l0 : Nat) (H : HS) : rn 231 17 [.ref l0, l1, l2, l3] [] H = rn 231 18 [.ref l0, l1, l2, l3] [.ref l0] H := rn_nx rfl
theorem x231_18 (l0 l1 l2 : Value) (l3 : Int32) (s0 : Nat) (H : HS) : rn 231 18 [l0, l1, l2, .int l3] [.ref s0] H = rn 231 19 [l0, l1, l2, .int l3] [.int l3, .ref s0] H := rn_nx rfl
theorem x231_19 (l0 l1 l2 l3 : Value) (s0 : Int32) (s1 : Nat) (H : HS) (h : recv H s1 5 = true) : rn 231 19 [l0, l1, l2, l3] [.int s0, .ref s1] H = bnd true 231 19 [l0, l1, l2, l3] [] (rcal 229 [.ref s1, .int s0] H) := rn_cal (vcal h rfl)
theorem x231_22 (l1 l2 l3 : Value) (l0 : Nat) (s0 : Int32) (H : HS) : rn 231 22 [.ref l0, l1, l2, l3] [.int s0] H = rn 231 23 [.ref l0, l1, l2, l3] [.ref l0, .int s0] H := rn_nx rfl
theorem x231_23 (l0 l1 l3 : Value) (l2 : Int32) (s0 : Nat) (s1 : Int32) (H : HS) : rn 231 23 [l0, l1, .int l2, l3] [.ref s0, .int s1] H = rn 231 24 [l0, l1, .int l2, l3] [.int l2, .ref s0, .int s1] H := rn_nx rfl
theorem x231_24 (l0 l1 l2 l3 : Value) (s0 : Int32) (s1 : Nat) (s2 : Int32) (H : HS) (h : recv H s1 5 = true) : rn 231 24 [l0, l1, l2, l3] [.int s0, .ref s1, .int s2] H = bnd true 231 24 [l0, l1, l2, l3] [.int s2] (rcal 229 [.ref s1, .int s0] H) := rn_cal (vcal h rfl)
theorem x231_27 (l0 l1 l2 l3 : Value) (s0 : Int32) (s1 : Int32) (H : HS) : rn 231 27 [l0, l1, l2, l3] [.int s0, .int s1] H = if s0 < s1 then rn 231 30 [l0, l1, l2, l3] [] H else rn 231 34 [l0, l1, l2, l3] [] H := (rn_ev ..).trans (ev_bin rfl)
theorem x231_30 (l0 l1 l2 : Value) (l3 : Int32) (H : HS) : rn 231 30 [l0, l1, l2, .int l3] [] H = rn 231 31 [l0, l1, l2, .int l3] [.int l3] H := rn_nx rfl
theorem x231_31 (l0 l1 l2 l3 : Value) (s0 : Int32) (H : HS) : rn 231 31 [l0, l1, l2, l3] [.int s0] H = rn 231 35 [l0, l1, l2, l3] [.int s0] H := rn_nx rfl
theorem x231_35 (l0 l1 l2 l3 : Value) (s0 : Int32) (H : HS) : rn 231 35 [l0, l1, l2, l3] [.int s0] H = rn 231 36 [l0, (kl l1), .int s0, l3] [] H := rn_nx rfl
theorem x231_36 (l0 l1 l2 : Value) (l3 : Int32) (H : HS) : rn 231 36 [l0, l1, l2, .int l3] [] H = rn 231 39 [l0, l1, (kl l2), .int (l3 + 1)] [] H := rn_nx rfl
theorem x231_39 (l0 l1 l2 l3 : Value) (H : HS) : rn 231 39 [l0, l1, l2, l3] [] H = rn 231 11 [l0, l1, l2, l3] [] H := rn_nx rfl
theorem x231_34 (l0 l1 l3 : Value) (l2 : Int32) (H : HS) : rn 231 34 [l0, l1, .int l2, l3] [] H = rn 231 35 [l0, l1, .int l2, l3] [.int l2] H := rn_nx rfl
theorem x231_42 (l1 l2 l3 : Value) (l0 : Nat) (H : HS) : rn 231 42 [.ref l0, l1, l2, l3] [] H = rn 231 43 [.ref l0, l1, l2, l3] [.ref l0] H := rn_nx rfl
theorem x231_43 (l0 l1 l3 : Value) (l2 : Int32) (s0 : Nat) (H : HS) : rn 231 43 [l0, l1, .int l2, l3] [.ref s0] H = rn 231 44 [l0, l1, .int l2, l3] [.int l2, .ref s0] H := rn_nx rfl
theorem x231_44 (l0 l1 l2 l3 : Value) (s0 : Int32) (s1 : Nat) (H : HS) (h : recv H s1 5 = true) : rn 231 44 [l0, l1, l2, l3] [.int s0, .ref s1] H = bnd true 231 44 [l0, l1, l2, l3] [] (rcal 229 [.ref s1, .int s0] H) := rn_cal (vcal h rfl)
theorem x231_47 (l0 l1 l2 l3 : Value) (s0 : Int32) (H : HS) : rn 231 47 [l0, l1, l2, l3] [.int s0] H = rn 231 48 [l0, l1, (kl l2), .int s0] [] H := rn_nx rfl
theorem x231_48 (l1 l2 l3 : Value) (l0 : Nat) (H : HS) : rn 231 48 [.ref l0, l1, l2, l3] [] H = rn 231 49 [.ref l0, l1, l2, l3] [.ref l0] H := rn_nx rfl
theorem x231_49 (l0 l1 l2 l3 : Value) (s0 : Nat) (H : HS) : rn 231 49 [l0, l1, l2, l3] [.ref s0] H = rn 231 50 [l0, l1, l2, l3] [.ref s0, .ref s0] H := rn_nx rfl
theorem x231_50 (l0 l1 l2 l3 : Value) (s0 : Nat) (s1 : Nat) (H : HS) : rn 231 50 [l0, l1, l2, l3] [.ref s0, .ref s1] H = gk 231 53 [l0, l1, l2, l3] [.ref s1] H (gfd H 5 18 s0) := (rn_ev ..).trans (ev_gk rfl)
theorem x231_53 (l0 l1 l2 : Value) (l3 : Int32) (s0 : Int32) (s1 : Nat) (H : HS) : rn 231 53 [l0, l1, l2, .int l3] [.int s0, .ref s1] H = rn 231 54 [l0, l1, l2, .int l3] [.int l3, .int s0, .ref s1] H := rn_nx rfl
theorem x231_54 (l0 l1 l2 l3 : Value) (s0 : Int32) (s1 : Int32) (s2 : Nat) (H : HS) : rn 231 54 [l0, l1, l2, l3] [.int s0, .int s1, .ref s2] H = rn 231 55 [l0, l1, l2, l3] [.int (s1 + s0), .ref s2] H := rn_nx rfl
theorem x231_55 (l0 l1 l2 l3 : Value) (s0 : Int32) (s1 : Nat) (H : HS) : rn 231 55 [l0, l1, l2, l3] [.int s0, .ref s1] H = pk 231 58 [l0, l1, l2, l3] [] (pfd H true 5 18 s1 (.int s0)) := (rn_ev ..).trans (ev_pk rfl)
theorem x231_58 (l1 l2 l3 : Value) (l0 : Nat) (H : HS) : rn 231 58 [.ref l0, l1, l2, l3] [] H = rn 231 59 [.ref l0, l1, l2, l3] [.ref l0] H := rn_nx rfl
theorem x231_59 (l0 l1 l2 : Value) (l3 : Int32) (s0 : Nat) (H : HS) : rn 231 59 [l0, l1, l2, .int l3] [.ref s0] H = rn 231 60 [l0, l1, l2, .int l3] [.int l3, .ref s0] H := rn_nx rfl
theorem x231_60 (l1 l2 l3 : Value) (l0 : Nat) (s0 : Int32) (s1 : Nat) (H : HS) : rn 231 60 [.ref l0, l1, l2, l3] [.int s0, .ref s1] H = rn 231 61 [.ref l0, l1, l2, l3] [.ref l0, .int s0, .ref s1] H := rn_nx rfl
theorem x231_61 (l0 l1 l2 l3 : Value) (s0 : Nat) (s1 : Int32) (s2 : Nat) (H : HS) : rn 231 61 [l0, l1, l2, l3] [.ref s0, .int s1, .ref s2] H = gk 231 64 [l0, l1, l2, l3] [.int s1, .ref s2] H (gfd H 5 15 s0) := (rn_ev ..).trans (ev_gk rfl)
theorem x231_64 (l0 l1 l3 : Value) (l2 : Int32) (s0 : Nat) (s1 : Int32) (s2 : Nat) (H : HS) : rn 231 64 [l0, l1, .int l2, l3] [.ref s0, .int s1, .ref s2] H = rn 231 65 [l0, l1, .int l2, l3] [.int l2, .ref s0, .int s1, .ref s2] H := rn_nx rfl
theorem x231_65 (l0 l1 l2 l3 : Value) (s0 : Int32) (s1 : Nat) (s2 : Int32) (s3 : Nat) (H : HS) : rn 231 65 [l0, l1, l2, l3] [.int s0, .ref s1, .int s2, .ref s3] H = rn 231 66 [l0, l1, l2, l3] [.int 1, .int s0, .ref s1, .int s2, .ref s3] H := rn_nx rfl
theorem x231_66 (l0 l1 l2 l3 : Value) (s0 : Int32) (s1 : Int32) (s2 : Nat) (s3 : Int32) (s4 : Nat) (H : HS) : rn 231 66 [l0, l1, l2, l3] [.int s0, .int s1, .ref s2, .int s3, .ref s4] H = rn 231 67 [l0, l1, l2, l3] [.int (s1 + s0), .ref s2, .int s3, .ref s4] H := rn_nx rfl
theorem x231_67 (l0 l1 l2 l3 : Value) (s0 : Int32) (s1 : Nat) (s2 : Int32) (s3 : Nat) (H : HS) : rn 231 67 [l0, l1, l2, l3] [.int s0, .ref s1, .int s2, .ref s3] H = gk 231 68 [l0, l1, l2, l3] [.int s2, .ref s3] H (ald H 100 s1 s0) := (rn_ev ..).trans (ev_gk rfl)
theorem x231_68 (l1 l2 l3 : Value) (l0 : Nat) (s0 : Int32) (s1 : Int32) (s2 : Nat) (H : HS) : rn 231 68 [.ref l0, l1, l2, l3] [.int s0, .int s1, .ref s2] H = rn 231 69 [.ref l0, l1, l2, l3] [.ref l0, .int s0, .int s1, .ref s2] H := rn_nx rfl
theorem x231_69 (l0 l1 l2 l3 : Value) (s0 : Nat) (s1 : Int32) (s2 : Int32) (s3 : Nat) (H : HS) : rn 231 69 [l0, l1, l2, l3] [.ref s0, .int s1, .int s2, .ref s3] H = gk 231 72 [l0, l1, l2, l3] [.int s1, .int s2, .ref s3] H (gfd H 5 15 s0) := (rn_ev ..).trans (ev_gk rfl)
theorem x231_72 (l0 l1 l3 : Value) (l2 : Int32) (s0 : Nat) (s1 : Int32) (s2 : Int32) (s3 : Nat) (H : HS) : rn 231 72 [l0, l1, .int l2, l3] [.ref s0, .int s1, .int s2, .ref s3] H = rn 231 73 [l0, l1, .int l2, l3] [.int l2, .ref s0, .int s1, .int s2, .ref s3] H := rn_nx rfl
theorem x231_73 (l0 l1 l2 l3 : Value) (s0 : Int32) (s1 : Nat) (s2 : Int32) (s3 : Int32) (s4 : Nat) (H : HS) : rn 231 73 [l0, l1, l2, l3] [.int s0, .ref s1, .int s2, .int s3, .ref s4] H = gk 231 74 [l0, l1, l2, l3] [.int s2, .int s3, .ref s4] H (ald H 100 s1 s0) := (rn_ev ..).trans (ev_gk rfl)
theorem x231_74 (l0 l1 l2 l3 : Value) (s0 : Int32) (s1 : Int32) (s2 : Int32) (s3 : Nat) (H : HS) : rn 231 74 [l0, l1, l2, l3] [.int s0, .int s1, .int s2, .ref s3] H = rn 231 75 [l0, l1, l2, l3] [.int (s1 - s0), .int s2, .ref s3] H := rn_nx rfl
theorem x231_75 (l0 l1 l2 l3 : Value) (s0 : Int32) (s1 : Int32) (s2 : Nat) (H : HS) : rn 231 75 [l0, l1, l2, l3] [.int s0, .int s1, .ref s2] H = if s1 < s0 then rn 231 78 [l0, l1, l2, l3] [.ref s2] H else rn 231 82 [l0, l1, l2, l3] [.ref s2] H := (rn_ev ..).trans (ev_bin rfl)
theorem x231_78 (l0 l1 l2 l3 : Value) (s0 : Nat) (H : HS) : rn 231 78 [l0, l1, l2, l3] [.ref s0] H = rn 231 79 [l0, l1, l2, l3] [.int 1, .ref s0] H := rn_nx rfl
theorem x231_79 (l0 l1 l2 l3 : Value) (s0 : Int32) (s1 : Nat) (H : HS) : rn 231 79 [l0, l1, l2, l3] [.int s0, .ref s1] H = rn 231 83 [l0, l1, l2, l3] [.int s0, .ref s1] H := rn_nx rfl
theorem x231_83 (l0 l1 l2 l3 : Value) (s0 : Int32) (s1 : Nat) (H : HS) : rn 231 83 [l0, l1, l2, l3] [.int s0, .ref s1] H = pk 231 86 [l0, l1, l2, l3] [] (pfd H true 5 20 s1 (.int s0)) := (rn_ev ..).trans (ev_pk rfl)
theorem x231_86 (l1 l2 l3 : Value) (l0 : Nat) (H : HS) : rn 231 86 [.ref l0, l1, l2, l3] [] H = rn 231 87 [.ref l0, l1, l2, l3] [.ref l0] H := rn_nx rfl
theorem x231_87 (l0 l1 l2 l3 : Value) (s0 : Nat) (H : HS) : rn 231 87 [l0, l1, l2, l3] [.ref s0] H = gk 231 90 [l0, l1, l2, l3] [] H (gfd H 5 20 s0) := (rn_ev ..).trans (ev_gk rfl)
theorem x231_90 (l0 l1 l2 l3 : Value) (s0 : Int32) (H : HS) : rn 231 90 [l0, l1, l2, l3] [.int s0] H = if s0 = 0 then rn 231 93 [l0, l1, l2, l3] [] H else rn 231 118 [l0, l1, l2, l3] [] H := (rn_ev ..).trans (ev_bin rfl)
theorem x231_93 (l1 l2 l3 : Value) (l0 : Nat) (H : HS) : rn 231 93 [.ref l0, l1, l2, l3] [] H = rn 231 94 [.ref l0, l1, l2, l3] [.ref l0] H := rn_nx rfl
theorem x231_94 (l0 l1 l2 l3 : Value) (s0 : Nat) (H : HS) : rn 231 94 [l0, l1, l2, l3] [.ref s0] H = gk 231 97 [l0, l1, l2, l3] [] H (gfd H 5 16 s0) := (rn_ev ..).trans (ev_gk rfl)
theorem x231_97 (l0 l2 l3 : Value) (l1 : Int32) (s0 : Nat) (H : HS) : rn 231 97 [l0, .int l1, l2, l3] [.ref s0] H = rn 231 98 [l0, .int l1, l2, l3] [.int l1, .ref s0] H := rn_nx rfl
theorem x231_98 (l0 l1 l3 : Value) (l2 : Int32) (s0 : Int32) (s1 : Nat) (H : HS) : rn 231 98 [l0, l1, .int l2, l3] [.int s0, .ref s1] H = rn 231 99 [l0, l1, .int l2, l3] [.int l2, .int s0, .ref s1] H := rn_nx rfl
theorem x231_99 (l0 l1 l2 l3 : Value) (s0 : Int32) (s1 : Int32) (s2 : Nat) (H : HS) : rn 231 99 [l0, l1, l2, l3] [.int s0, .int s1, .ref s2] H = pk 231 100 [l0, l1, l2, l3] [] (ast H 100 s2 s1 (.int s0)) := (rn_ev ..).trans (ev_pk rfl)
theorem x231_100 (l1 l2 l3 : Value) (l0 : Nat) (H : HS) : rn 231 100 [.ref l0, l1, l2, l3] [] H = rn 231 101 [.ref l0, l1, l2, l3] [.ref l0] H := rn_nx rfl
theorem x231_101 (l0 l1 l2 l3 : Value) (s0 : Nat) (H : HS) : rn 231 101 [l0, l1, l2, l3] [.ref s0] H = rn 231 102 [l0, l1, l2, l3] [.ref s0, .ref s0] H := rn_nx rfl
theorem x231_102 (l0 l1 l2 l3 : Value) (s0 : Nat) (s1 : Nat) (H : HS) : rn 231 102 [l0, l1, l2, l3] [.ref s0, .ref s1] H = gk 231 105 [l0, l1, l2, l3] [.ref s1] H (gfd H 5 17 s0) := (rn_ev ..).trans (ev_gk rfl)
theorem x231_105 (l0 l1 l2 l3 : Value) (s0 : Int32) (s1 : Nat) (H : HS) : rn 231 105 [l0, l1, l2, l3] [.int s0, .ref s1] H = rn 231 106 [l0, l1, l2, l3] [.int 1, .int s0, .ref s1] H := rn_nx rfl
theorem x231_106 (l0 l1 l2 l3 : Value) (s0 : Int32) (s1 : Int32) (s2 : Nat) (H : HS) : rn 231 106 [l0, l1, l2, l3] [.int s0, .int s1, .ref s2] H = rn 231 107 [l0, l1, l2, l3] [.int (s1 + s0), .ref s2] H := rn_nx rfl
theorem x231_107 (l0 l1 l2 l3 : Value) (s0 : Int32) (s1 : Nat) (H : HS) : rn 231 107 [l0, l1, l2, l3] [.int s0, .ref s1] H = pk 231 110 [l0, l1, l2, l3] [] (pfd H true 5 17 s1 (.int s0)) := (rn_ev ..).trans (ev_pk rfl)
theorem x231_110 (l1 l2 l3 : Value) (l0 : Nat) (H : HS) : rn 231 110 [.ref l0, l1, l2, l3] [] H = rn 231 111 [.ref l0, l1, l2, l3] [.ref l0] H := rn_nx rfl
theorem x231_111 (l0 l1 l3 : Value) (l2 : Int32) (s0 : Nat) (H : HS) : rn 231 111 [l0, l1, .int l2, l3] [.ref s0] H = rn 231 112 [l0, l1, .int l2, l3] [.int l2, .ref s0] H := rn_nx rfl
theorem x231_112 (l0 l2 l3 : Value) (l1 : Int32) (s0 : Int32) (s1 : Nat) (H : HS) : rn 231 112 [l0, .int l1, l2, l3] [.int s0, .ref s1] H = rn 231 113 [l0, .int l1, l2, l3] [.int l1, .int s0, .ref s1] H := rn_nx rfl
theorem x231_113 (l0 l1 l2 l3 : Value) (s0 : Int32) (s1 : Int32) (s2 : Nat) (H : HS) : rn 231 113 [l0, l1, l2, l3] [.int s0, .int s1, .ref s2] H = rn 231 114 [l0, l1, l2, l3] [.int 1, .int s0, .int s1, .ref s2] H := rn_nx rfl
theorem x231_114 (l0 l1 l2 l3 : Value) (s0 : Int32) (s1 : Int32) (s2 : Int32) (s3 : Nat) (H : HS) : rn 231 114 [l0, l1, l2, l3] [.int s0, .int s1, .int s2, .ref s3] H = rn 231 115 [l0, l1, l2, l3] [.int (s1 + s0), .int s2, .ref s3] H := rn_nx rfl
theorem x231_115 (l0 l1 l2 l3 : Value) (s0 : Int32) (s1 : Int32) (s2 : Nat) (H : HS) (h : recv H s2 5 = true) : rn 231 115 [l0, l1, l2, l3] [.int s0, .int s1, .ref s2] H = bnd true 231 115 [l0, l1, l2, l3] [] (rcal 230 [.ref s2, .int s1, .int s0] H) := rn_cal (vcal h rfl)
theorem x231_118 (l0 l1 l2 l3 : Value) (H : HS) : rn 231 118 [l0, l1, l2, l3] [] H = some (.inl none, H) := rn_end rfl
theorem x231_82 (l0 l1 l2 l3 : Value) (s0 : Nat) (H : HS) : rn 231 82 [l0, l1, l2, l3] [.ref s0] H = rn 231 83 [l0, l1, l2, l3] [.int 0, .ref s0] H := rn_nx rfl
theorem c231 (a0 : Nat) (H : HS) : rcal 231 [.ref a0] H = rn 231 0 [.ref a0, un, un, un] [] H := rfl
theorem x232_0 (l1 l2 l3 : Value) (l0 : Nat) (H : HS) : rn 232 0 [.ref l0, l1, l2, l3] [] H = rn 232 1 [.ref l0, l1, l2, l3] [.ref l0] H := rn_nx rfl
theorem x232_1 (l0 l1 l2 l3 : Value) (s0 : Nat) (H : HS) : rn 232 1 [l0, l1, l2, l3] [.ref s0] H = gk 232 4 [l0, l1, l2, l3] [] H (gfd H 5 16 s0) := (rn_ev ..).trans (ev_gk rfl)
theorem x232_4 (l0 l2 l3 : Value) (l1 : Int32) (s0 : Nat) (H : HS) : rn 232 4 [l0, .int l1, l2, l3] [.ref s0] H = rn 232 5 [l0, .int l1, l2, l3] [.int l1, .ref s0] H := rn_nx rfl
theorem x232_5 (l0 l1 l2 l3 : Value) (s0 : Int32) (s1 : Nat) (H : HS) : rn 232 5 [l0, l1, l2, l3] [.int s0, .ref s1] H = rn 232 6 [l0, l1, l2, l3] [.int 1, .int s0, .ref s1] H := rn_nx rfl
theorem x232_6 (l0 l1 l2 l3 : Value) (s0 : Int32) (s1 : Int32) (s2 : Nat) (H : HS) : rn 232 6 [l0, l1, l2, l3] [.int s0, .int s1, .ref s2] H = rn 232 7 [l0, l1, l2, l3] [.int (s1 + s0), .ref s2] H := rn_nx rfl
theorem x232_7 (l0 l1 l2 l3 : Value) (s0 : Int32) (s1 : Nat) (H : HS) : rn 232 7 [l0, l1, l2, l3] [.int s0, .ref s1] H = gk 232 8 [l0, l1, l2, l3] [] H (ald H 100 s1 s0) := (rn_ev ..).trans (ev_gk rfl)
theorem x232_8 (l0 l1 l2 l3 : Value) (s0 : Int32) (H : HS) : rn 232 8 [l0, l1, l2, l3] [.int s0] H = rn 232 9 [l0, (kl l1), .int s0, l3] [] H := rn_nx rfl
theorem x232_9 (l1 l2 l3 : Value) (l0 : Nat) (H : HS) : rn 232 9 [.ref l0, l1, l2, l3] [] H = rn 232 10 [.ref l0, l1, l2, l3] [.ref l0] H := rn_nx rfl
theorem x232_10 (l0 l1 l2 l3 : Value) (s0 : Nat) (H : HS) : rn 232 10 [l0, l1, l2, l3] [.ref s0] H = gk 232 13 [l0, l1, l2, l3] [] H (gfd H 5 16 s0) := (rn_ev ..).trans (ev_gk rfl)
theorem x232_13 (l0 l2 l3 : Value) (l1 : Int32) (s0 : Nat) (H : HS) : rn 232 13 [l0, .int l1, l2, l3] [.ref s0] H = rn 232 14 [l0, .int l1, l2, l3] [.int l1, .ref s0] H := rn_nx rfl
theorem x232_14 (l0 l1 l2 l3 : Value) (s0 : Int32) (s1 : Nat) (H : HS) : rn 232 14 [l0, l1, l2, l3] [.int s0, .ref s1] H = rn 232 15 [l0, l1, l2, l3] [.int 2, .int s0, .ref s1] H := rn_nx rfl
theorem x232_15 (l0 l1 l2 l3 : Value) (s0 : Int32) (s1 : Int32) (s2 : Nat) (H : HS) : rn 232 15 [l0, l1, l2, l3] [.int s0, .int s1, .ref s2] H = rn 232 16 [l0, l1, l2, l3] [.int (s1 + s0), .ref s2] H := rn_nx rfl
theorem x232_16 (l0 l1 l2 l3 : Value) (s0 : Int32) (s1 : Nat) (H : HS) : rn 232 16 [l0, l1, l2, l3] [.int s0, .ref s1] H = gk 232 17 [l0, l1, l2, l3] [] H (ald H 100 s1 s0) := (rn_ev ..).trans (ev_gk rfl)
theorem x232_17 (l0 l1 l2 l3 : Value) (s0 : Int32) (H : HS) : rn 232 17 [l0, l1, l2, l3] [.int s0] H = rn 232 18 [l0, l1, (kl l2), .int s0] [] H := rn_nx rfl
theorem x232_18 (l1 l2 l3 : Value) (l0 : Nat) (H : HS) : rn 232 18 [.ref l0, l1, l2, l3] [] H = rn 232 19 [.ref l0, l1, l2, l3] [.ref l0] H := rn_nx rfl
theorem x232_19 (l0 l1 l2 l3 : Value) (s0 : Nat) (H : HS) : rn 232 19 [l0, l1, l2, l3] [.ref s0] H = gk 232 22 [l0, l1, l2, l3] [] H (gfd H 5 16 s0) := (rn_ev ..).trans (ev_gk rfl)
theorem x232_22 (l0 l2 l3 : Value) (l1 : Int32) (s0 : Nat) (H : HS) : rn 232 22 [l0, .int l1, l2, l3] [.ref s0] H = rn 232 23 [l0, .int l1, l2, l3] [.int l1, .ref s0] H := rn_nx rfl
theorem x232_23 (l0 l1 l2 l3 : Value) (s0 : Int32) (s1 : Nat) (H : HS) : rn 232 23 [l0, l1, l2, l3] [.int s0, .ref s1] H = gk 232 24 [l0, l1, l2, l3] [] H (ald H 100 s1 s0) := (rn_ev ..).trans (ev_gk rfl)
theorem x232_24_0 (l0 l1 l2 l3 : Value) (H : HS) : rn 232 24 [l0, l1, l2, l3] [.int 0] H = rn 232 64 [l0, l1, l2, l3] [] H := rn_nx rfl
theorem x232_24_1 (l0 l1 l2 l3 : Value) (H : HS) : rn 232 24 [l0, l1, l2, l3] [.int 1] H = rn 232 74 [l0, l1, l2, l3] [] H := rn_nx rfl
theorem x232_24_2 (l0 l1 l2 l3 : Value) (H : HS) : rn 232 24 [l0, l1, l2, l3] [.int 2] H = rn 232 84 [l0, l1, l2, l3] [] H := rn_nx rfl
theorem x232_24_3 (l0 l1 l2 l3 : Value) (H : HS) : rn 232 24 [l0, l1, l2, l3] [.int 3] H = rn 232 102 [l0, l1, l2, l3] [] H := rn_nx rfl
theorem x232_24_4 (l0 l1 l2 l3 : Value) (H : HS) : rn 232 24 [l0, l1, l2, l3] [.int 4] H = rn 232 112 [l0, l1, l2, l3] [] H := rn_nx rfl
theorem x232_24_5 (l0 l1 l2 l3 : Value) (H : HS) : rn 232 24 [l0, l1, l2, l3] [.int 5] H = rn 232 122 [l0, l1, l2, l3] [] H := rn_nx rfl
theorem x232_24_d (l0 l1 l2 l3 : Value) (H : HS) (v : Int32) (h : v.toInt < 0 ∨ 5 < v.toInt) : rn 232 24 [l0, l1, l2, l3] [.int v] H = rn 232 131 [l0, l1, l2, l3] [] H := (rn_ev ..).trans (ev_ifp h rfl)
theorem x232_131 (l1 l2 l3 : Value) (l0 : Nat) (H : HS) : rn 232 131 [.ref l0, l1, l2, l3] [] H = rn 232 132 [.ref l0, l1, l2, l3] [.ref l0] H := rn_nx rfl
theorem x232_132 (l0 l1 l3 : Value) (l2 : Int32) (s0 : Nat) (H : HS) : rn 232 132 [l0, l1, .int l2, l3] [.ref s0] H = rn 232 133 [l0, l1, .int l2, l3] [.int l2, .ref s0] H := rn_nx rfl
theorem x232_133 (l0 l1 l2 l3 : Value) (s0 : Int32) (s1 : Nat) (H : HS) (h : recv H s1 5 = true) : rn 232 133 [l0, l1, l2, l3] [.int s0, .ref s1] H = bnd true 232 133 [l0, l1, l2, l3] [] (rcal 187 [.ref s1, .int s0] H) := rn_cal (vcal h rfl)
theorem x232_136 (l0 l1 l2 l3 : Value) (s0 : Int32) (H : HS) : rn 232 136 [l0, l1, l2, l3] [.int s0] H = rn 232 137 [l0, l1, l2, l3] [] H := rn_nx rfl
theorem x232_137 (l0 l1 l2 l3 : Value) (H : HS) : rn 232 137 [l0, l1, l2, l3] [] H = some (.inl none, H) := rn_end rfl
theorem x232_122 (l1 l2 l3 : Value) (l0 : Nat) (H : HS) : rn 232 122 [.ref l0, l1, l2, l3] [] H = rn 232 123 [.ref l0, l1, l2, l3] [.ref l0] H := rn_nx rfl
theorem x232_123 (l0 l1 l3 : Value) (l2 : Int32) (s0 : Nat) (H : HS) : rn 232 123 [l0, l1, .int l2, l3] [.ref s0] H = rn 232 124 [l0, l1, .int l2, l3] [.int l2, .ref s0] H := rn_nx rfl
theorem x232_124 (l0 l1 l2 l3 : Value) (s0 : Int32) (s1 : Nat) (H : HS) (h : recv H s1 5 = true) : rn 232 124 [l0, l1, l2, l3] [.int s0, .ref s1] H = bnd true 232 124 [l0, l1, l2, l3] [] (rcal 177 [.ref s1, .int s0] H) := rn_cal (vcal h rfl)
theorem x232_127 (l0 l1 l2 l3 : Value) (s0 : Int32) (H : HS) : rn 232 127 [l0, l1, l2, l3] [.int s0] H = rn 232 128 [l0, l1, l2, l3] [] H := rn_nx rfl
theorem x232_128 (l0 l1 l2 l3 : Value) (H : HS) : rn 232 128 [l0, l1, l2, l3] [] H = rn 232 137 [l0, l1, l2, l3] [] H := rn_nx rfl
theorem x232_112 (l1 l2 l3 : Value) (l0 : Nat) (H : HS) : rn 232 112 [.ref l0, l1, l2, l3] [] H = rn 232 113 [.ref l0, l1, l2, l3] [.ref l0] H := rn_nx rfl
theorem x232_113 (l0 l1 l3 : Value) (l2 : Int32) (s0 : Nat) (H : HS) : rn 232 113 [l0, l1, .int l2, l3] [.ref s0] H = rn 232 114 [l0, l1, .int l2, l3] [.int l2, .ref s0] H := rn_nx rfl
theorem x232_114 (l0 l1 l2 l3 : Value) (s0 : Int32) (s1 : Nat) (H : HS) : rn 232 114 [l0, l1, l2, l3] [.int s0, .ref s1] H = rn 232 115 [l0, l1, l2, l3] [.int 0, .int s0, .ref s1] H := rn_nx rfl
theorem x232_115 (l0 l1 l2 l3 : Value) (s0 : Int32) (s1 : Int32) (s2 : Nat) (H : HS) (h : recv H s2 5 = true) : rn 232 115 [l0, l1, l2, l3] [.int s0, .int s1, .ref s2] H = bnd true 232 115 [l0, l1, l2, l3] [] (rcal 174 [.ref s2, .int s1, .int s0] H) := rn_cal (vcal h rfl)
theorem x232_118 (l0 l1 l2 l3 : Value) (s0 : Int32) (H : HS) : rn 232 118 [l0, l1, l2, l3] [.int s0] H = rn 232 119 [l0, l1, l2, l3] [] H := rn_nx rfl
theorem x232_119 (l0 l1 l2 l3 : Value) (H : HS) : rn 232 119 [l0, l1, l2, l3] [] H = rn 232 137 [l0, l1, l2, l3] [] H := rn_nx rfl
theorem x232_102 (l1 l2 l3 : Value) (l0 : Nat) (H : HS) : rn 232 102 [.ref l0, l1, l2, l3] [] H = rn 232 103 [.ref l0, l1, l2, l3] [.ref l0] H := rn_nx rfl
theorem x232_103 (l0 l1 l3 : Value) (l2 : Int32) (s0 : Nat) (H : HS) : rn 232 103 [l0, l1, .int l2, l3] [.ref s0] H = rn 232 104 [l0, l1, .int l2, l3] [.int l2, .ref s0] H := rn_nx rfl
theorem x232_104 (l0 l1 l2 l3 : Value) (s0 : Int32) (s1 : Nat) (H : HS) : rn 232 104 [l0, l1, l2, l3] [.int s0, .ref s1] H = rn 232 105 [l0, l1, l2, l3] [.int 1, .int s0, .ref s1] H := rn_nx rfl
theorem x232_105 (l0 l1 l2 l3 : Value) (s0 : Int32) (s1 : Int32) (s2 : Nat) (H : HS) (h : recv H s2 5 = true) : rn 232 105 [l0, l1, l2, l3] [.int s0, .int s1, .ref s2] H = bnd true 232 105 [l0, l1, l2, l3] [] (rcal 174 [.ref s2, .int s1, .int s0] H) := rn_cal (vcal h rfl)
theorem x232_108 (l0 l1 l2 l3 : Value) (s0 : Int32) (H : HS) : rn 232 108 [l0, l1, l2, l3] [.int s0] H = rn 232 109 [l0, l1, l2, l3] [] H := rn_nx rfl
theorem x232_109 (l0 l1 l2 l3 : Value) (H : HS) : rn 232 109 [l0, l1, l2, l3] [] H = rn 232 137 [l0, l1, l2, l3] [] H := rn_nx rfl
theorem x232_84 (l1 l2 l3 : Value) (l0 : Nat) (H : HS) : rn 232 84 [.ref l0, l1, l2, l3] [] H = rn 232 85 [.ref l0, l1, l2, l3] [.ref l0] H := rn_nx rfl
theorem x232_85 (l0 l1 l3 : Value) (l2 : Int32) (s0 : Nat) (H : HS) : rn 232 85 [l0, l1, .int l2, l3] [.ref s0] H = rn 232 86 [l0, l1, .int l2, l3] [.int l2, .ref s0] H := rn_nx rfl
theorem x232_86 (l0 l1 l2 : Value) (l3 : Int32) (s0 : Int32) (s1 : Nat) (H : HS) : rn 232 86 [l0, l1, l2, .int l3] [.int s0, .ref s1] H = rn 232 87 [l0, l1, l2, .int l3] [.int l3, .int s0, .ref s1] H := rn_nx rfl
theorem x232_87 (l1 l2 l3 : Value) (l0 : Nat) (s0 : Int32) (s1 : Int32) (s2 : Nat) (H : HS) : rn 232 87 [.ref l0, l1, l2, l3] [.int s0, .int s1, .ref s2] H = rn 232 88 [.ref l0, l1, l2, l3] [.ref l0, .int s0, .int s1, .ref s2] H := rn_nx rfl
theorem x232_88 (l0 l1 l2 l3 : Value) (s0 : Nat) (s1 : Int32) (s2 : Int32) (s3 : Nat) (H : HS) : rn 232 88 [l0, l1, l2, l3] [.ref s0, .int s1, .int s2, .ref s3] H = gk 232 91 [l0, l1, l2, l3] [.int s1, .int s2, .ref s3] H (gfd H 5 16 s0) := (rn_ev ..).trans (ev_gk rfl)
theorem x232_91 (l0 l2 l3 : Value) (l1 : Int32) (s0 : Nat) (s1 : Int32) (s2 : Int32) (s3 : Nat) (H : HS) : rn 232 91 [l0, .int l1, l2, l3] [.ref s0, .int s1, .int s2, .ref s3] H = rn 232 92 [l0, .int l1, l2, l3] [.int l1, .ref s0, .int s1, .int s2, .ref s3] H := rn_nx rfl
theorem x232_92 (l0 l1 l2 l3 : Value) (s0 : Int32) (s1 : Nat) (s2 : Int32) (s3 : Int32) (s4 : Nat) (H : HS) : rn 232 92 [l0, l1, l2, l3] [.int s0, .ref s1, .int s2, .int s3, .ref s4] H = rn 232 93 [l0, l1, l2, l3] [.int 3, .int s0, .ref s1, .int s2, .int s3, .ref s4] H := rn_nx rfl
theorem x232_93 (l0 l1 l2 l3 : Value) (s0 : Int32) (s1 : Int32) (s2 : Nat) (s3 : Int32) (s4 : Int32) (s5 : Nat) (H : HS) : rn 232 93 [l0, l1, l2, l3] [.int s0, .int s1, .ref s2, .int s3, .int s4, .ref s5] H = rn 232 94 [l0, l1, l2, l3] [.int (s1 + s0), .ref s2, .int s3, .int s4, .ref s5] H := rn_nx rfl
theorem x232_94 (l0 l1 l2 l3 : Value) (s0 : Int32) (s1 : Nat) (s2 : Int32) (s3 : Int32) (s4 : Nat) (H : HS) : rn 232 94 [l0, l1, l2, l3] [.int s0, .ref s1, .int s2, .int s3, .ref s4] H = gk 232 95 [l0, l1, l2, l3] [.int s2, .int s3, .ref s4] H (ald H 100 s1 s0) := (rn_ev ..).trans (ev_gk rfl)
theorem x232_95 (l0 l1 l2 l3 : Value) (s0 : Int32) (s1 : Int32) (s2 : Int32) (s3 : Nat) (H : HS) (h : recv H s3 5 = true) : rn 232 95 [l0, l1, l2, l3] [.int s0, .int s1, .int s2, .ref s3] H = bnd true 232 95 [l0, l1, l2, l3] [] (rcal 171 [.ref s3, .int s2, .int s1, .int s0] H) := rn_cal (vcal h rfl)
theorem x232_98 (l0 l1 l2 l3 : Value) (s0 : Int32) (H : HS) : rn 232 98 [l0, l1, l2, l3] [.int s0] H = rn 232 99 [l0, l1, l2, l3] [] H := rn_nx rfl
theorem x232_99 (l0 l1 l2 l3 : Value) (H : HS) : rn 232 99 [l0, l1, l2, l3] [] H = rn 232 137 [l0, l1, l2, l3] [] H := rn_nx rfl
theorem x232_74 (l1 l2 l3 : Value) (l0 : Nat) (H : HS) : rn 232 74 [.ref l0, l1, l2, l3] [] H = rn 232 75 [.ref l0, l1, l2, l3] [.ref l0] H := rn_nx rfl
theorem x232_75 (l0 l1 l3 : Value) (l2 : Int32) (s0 : Nat) (H : HS) : rn 232 75 [l0, l1, .int l2, l3] [.ref s0] H = rn 232 76 [l0, l1, .int l2, l3] [.int l2, .ref s0] H := rn_nx rfl
theorem x232_76 (l0 l1 l2 : Value) (l3 : Int32) (s0 : Int32) (s1 : Nat) (H : HS) : rn 232 76 [l0, l1, l2, .int l3] [.int s0, .ref s1] H = rn 232 77 [l0, l1, l2, .int l3] [.int l3, .int s0, .ref s1] H := rn_nx rfl
theorem x232_77 (l0 l1 l2 l3 : Value) (s0 : Int32) (s1 : Int32) (s2 : Nat) (H : HS) (h : recv H s2 5 = true) : rn 232 77 [l0, l1, l2, l3] [.int s0, .int s1, .ref s2] H = bnd true 232 77 [l0, l1, l2, l3] [] (rcal 169 [.ref s2, .int s1, .int s0] H) := rn_cal (vcal h rfl)
theorem x232_80 (l0 l1 l2 l3 : Value) (s0 : Int32) (H : HS) : rn 232 80 [l0, l1, l2, l3] [.int s0] H = rn 232 81 [l0, l1, l2, l3] [] H := rn_nx rfl
theorem x232_81 (l0 l1 l2 l3 : Value) (H : HS) : rn 232 81 [l0, l1, l2, l3] [] H = rn 232 137 [l0, l1, l2, l3] [] H := rn_nx rfl
theorem x232_64 (l1 l2 l3 : Value) (l0 : Nat) (H : HS) : rn 232 64 [.ref l0, l1, l2, l3] [] H = rn 232 65 [.ref l0, l1, l2, l3] [.ref l0] H := rn_nx rfl
theorem x232_65 (l0 l1 l3 : Value) (l2 : Int32) (s0 : Nat) (H : HS) : rn 232 65 [l0, l1, .int l2, l3] [.ref s0] H = rn 232 66 [l0, l1, .int l2, l3] [.int l2, .ref s0] H := rn_nx rfl
theorem x232_66 (l0 l1 l2 : Value) (l3 : Int32) (s0 : Int32) (s1 : Nat) (H : HS) : rn 232 66 [l0, l1, l2, .int l3] [.int s0, .ref s1] H = rn 232 67 [l0, l1, l2, .int l3] [.int l3, .int s0, .ref s1] H := rn_nx rfl
theorem x232_67 (l0 l1 l2 l3 : Value) (s0 : Int32) (s1 : Int32) (s2 : Nat) (H : HS) (h : recv H s2 5 = true) : rn 232 67 [l0, l1, l2, l3] [.int s0, .int s1, .ref s2] H = bnd true 232 67 [l0, l1, l2, l3] [] (rcal 167 [.ref s2, .int s1, .int s0] H) := rn_cal (vcal h rfl)
theorem x232_70 (l0 l1 l2 l3 : Value) (s0 : Int32) (H : HS) : rn 232 70 [l0, l1, l2, l3] [.int s0] H = rn 232 71 [l0, l1, l2, l3] [] H := rn_nx rfl
theorem x232_71 (l0 l1 l2 l3 : Value) (H : HS) : rn 232 71 [l0, l1, l2, l3] [] H = rn 232 137 [l0, l1, l2, l3] [] H := rn_nx rfl
theorem c232 (a0 : Nat) (a1 : Int32) (H : HS) : rcal 232 [.ref a0, .int a1] H = rn 232 0 [.ref a0, .int a1, un, un] [] H := rfl
theorem x233_0 (l1 l2 l3 : Value) (l0 : Nat) (H : HS) : rn 233 0 [.ref l0, l1, l2, l3] [] H = rn 233 1 [.ref l0, l1, l2, l3] [.ref l0] H := rn_nx rfl
theorem x233_1 (l0 l1 l2 l3 : Value) (s0 : Nat) (H : HS) (h : recv H s0 5 = true) : rn 233 1 [l0, l1, l2, l3] [.ref s0] H = bnd true 233 1 [l0, l1, l2, l3] [] (rcal 152 [.ref s0] H) := rn_cal (vcal h rfl)
theorem x233_4 (l1 l2 l3 : Value) (l0 : Nat) (H : HS) : rn 233 4 [.ref l0, l1, l2, l3] [] H = rn 233 5 [.ref l0, l1, l2, l3] [.ref l0] H := rn_nx rfl
theorem x233_5 (l1 l2 l3 : Value) (l0 : Nat) (s0 : Nat) (H : HS) : rn 233 5 [.ref l0, l1, l2, l3] [.ref s0] H = rn 233 6 [.ref l0, l1, l2, l3] [.ref l0, .ref s0] H := rn_nx rfl
theorem x233_6 (l0 l1 l2 l3 : Value) (s0 : Nat) (s1 : Nat) (H : HS) : rn 233 6 [l0, l1, l2, l3] [.ref s0, .ref s1] H = gk 233 9 [l0, l1, l2, l3] [.ref s1] H (gfd H 5 11 s0) := (rn_ev ..).trans (ev_gk rfl)
theorem x233_9 (l0 l1 l2 l3 : Value) (s0 : Int32) (s1 : Nat) (H : HS) : rn 233 9 [l0, l1, l2, l3] [.int s0, .ref s1] H = pk 233 12 [l0, l1, l2, l3] [] (pfd H true 5 19 s1 (.int s0)) := (rn_ev ..).trans (ev_pk rfl)
theorem x233_12 (l1 l2 l3 : Value) (l0 : Nat) (H : HS) : rn 233 12 [.ref l0, l1, l2, l3] [] H = rn 233 13 [.ref l0, l1, l2, l3] [.ref l0] H := rn_nx rfl
theorem x233_13 (l0 l1 l2 l3 : Value) (s0 : Nat) (H : HS) : rn 233 13 [l0, l1, l2, l3] [.ref s0] H = rn 233 14 [l0, l1, l2, l3] [.int 0, .ref s0] H := rn_nx rfl
theorem x233_14 (l0 l1 l2 l3 : Value) (s0 : Int32) (s1 : Nat) (H : HS) : rn 233 14 [l0, l1, l2, l3] [.int s0, .ref s1] H = pk 233 17 [l0, l1, l2, l3] [] (pfd H true 5 11 s1 (.int s0)) := (rn_ev ..).trans (ev_pk rfl)
theorem x233_17 (l1 l2 l3 : Value) (l0 : Nat) (H : HS) : rn 233 17 [.ref l0, l1, l2, l3] [] H = rn 233 18 [.ref l0, l1, l2, l3] [.ref l0] H := rn_nx rfl
theorem x233_18 (l0 l1 l2 l3 : Value) (s0 : Nat) (H : HS) : rn 233 18 [l0, l1, l2, l3] [.ref s0] H = rn 233 19 [l0, l1, l2, l3] [.int 0, .ref s0] H := rn_nx rfl
theorem x233_19 (l0 l1 l2 l3 : Value) (s0 : Int32) (s1 : Nat) (H : HS) : rn 233 19 [l0, l1, l2, l3] [.int s0, .ref s1] H = pk 233 22 [l0, l1, l2, l3] [] (pfd H true 5 18 s1 (.int s0)) := (rn_ev ..).trans (ev_pk rfl)
theorem x233_22 (l1 l2 l3 : Value) (l0 : Nat) (H : HS) : rn 233 22 [.ref l0, l1, l2, l3] [] H = rn 233 23 [.ref l0, l1, l2, l3] [.ref l0] H := rn_nx rfl
theorem x233_23 (l0 l1 l2 l3 : Value) (s0 : Nat) (H : HS) : rn 233 23 [l0, l1, l2, l3] [.ref s0] H = rn 233 24 [l0, l1, l2, l3] [.int 0, .ref s0] H := rn_nx rfl
theorem x233_24 (l0 l1 l2 l3 : Value) (s0 : Int32) (s1 : Nat) (H : HS) : rn 233 24 [l0, l1, l2, l3] [.int s0, .ref s1] H = pk 233 27 [l0, l1, l2, l3] [] (pfd H true 5 17 s1 (.int s0)) := (rn_ev ..).trans (ev_pk rfl)
theorem x233_27 (l1 l2 l3 : Value) (l0 : Nat) (H : HS) : rn 233 27 [.ref l0, l1, l2, l3] [] H = rn 233 28 [.ref l0, l1, l2, l3] [.ref l0] H := rn_nx rfl
theorem x233_28 (l0 l1 l2 l3 : Value) (s0 : Nat) (H : HS) : rn 233 28 [l0, l1, l2, l3] [.ref s0] H = rn 233 29 [l0, l1, l2, l3] [.int 0, .ref s0] H := rn_nx rfl
theorem x233_29 (l0 l1 l2 l3 : Value) (s0 : Int32) (s1 : Nat) (H : HS) : rn 233 29 [l0, l1, l2, l3] [.int s0, .ref s1] H = pk 233 32 [l0, l1, l2, l3] [] (pfd H true 5 20 s1 (.int s0)) := (rn_ev ..).trans (ev_pk rfl)
theorem x233_32 (l0 l1 l2 l3 : Value) (H : HS) : rn 233 32 [l0, l1, l2, l3] [] H = rn 233 33 [l0, l1, l2, l3] [.int 1] H := rn_nx rfl
theorem x233_33 (l0 l1 l2 l3 : Value) (s0 : Int32) (H : HS) : rn 233 33 [l0, l1, l2, l3] [.int s0] H = rn 233 34 [(kl l0), .int s0, l2, l3] [] H := rn_nx rfl
theorem x233_34 (l0 l2 l3 : Value) (l1 : Int32) (H : HS) : rn 233 34 [l0, .int l1, l2, l3] [] H = rn 233 35 [l0, .int l1, l2, l3] [.int l1] H := rn_nx rfl
theorem x233_35 (l0 l1 l2 l3 : Value) (s0 : Int32) (H : HS) : rn 233 35 [l0, l1, l2, l3] [.int s0] H = if s0 = 0 then rn 233 92 [l0, l1, l2, l3] [] H else rn 233 38 [l0, l1, l2, l3] [] H := (rn_ev ..).trans (ev_bif rfl)
theorem x233_38 (l1 l2 l3 : Value) (l0 : Nat) (H : HS) : rn 233 38 [.ref l0, l1, l2, l3] [] H = rn 233 39 [.ref l0, l1, l2, l3] [.ref l0] H := rn_nx rfl
theorem x233_39 (l0 l1 l2 l3 : Value) (s0 : Nat) (H : HS) (h : recv H s0 5 = true) : rn 233 39 [l0, l1, l2, l3] [.ref s0] H = bnd true 233 39 [l0, l1, l2, l3] [] (rcal 231 [.ref s0] H) := rn_cal (vcal h rfl)
theorem x233_42 (l1 l2 l3 : Value) (l0 : Nat) (H : HS) : rn 233 42 [.ref l0, l1, l2, l3] [] H = rn 233 43 [.ref l0, l1, l2, l3] [.ref l0] H := rn_nx rfl
theorem x233_43 (l0 l1 l2 l3 : Value) (s0 : Nat) (H : HS) : rn 233 43 [l0, l1, l2, l3] [.ref s0] H = gk 233 46 [l0, l1, l2, l3] [] H (gfd H 5 20 s0) := (rn_ev ..).trans (ev_gk rfl)
theorem x233_46 (l0 l1 l2 l3 : Value) (s0 : Int32) (H : HS) : rn 233 46 [l0, l1, l2, l3] [.int s0] H = if s0 = 0 then rn 233 49 [l0, l1, l2, l3] [] H else rn 233 64 [l0, l1, l2, l3] [] H := (rn_ev ..).trans (ev_bin rfl)
theorem x233_49 (l1 l2 l3 : Value) (l0 : Nat) (H : HS) : rn 233 49 [.ref l0, l1, l2, l3] [] H = rn 233 50 [.ref l0, l1, l2, l3] [.ref l0] H := rn_nx rfl
theorem x233_50 (l0 l1 l2 l3 : Value) (s0 : Nat) (H : HS) : rn 233 50 [l0, l1, l2, l3] [.ref s0] H = gk 233 53 [l0, l1, l2, l3] [] H (gfd H 5 18 s0) := (rn_ev ..).trans (ev_gk rfl)
theorem x233_53 (l1 l2 l3 : Value) (l0 : Nat) (s0 : Int32) (H : HS) : rn 233 53 [.ref l0, l1, l2, l3] [.int s0] H = rn 233 54 [.ref l0, l1, l2, l3] [.ref l0, .int s0] H := rn_nx rfl
theorem x233_54 (l0 l1 l2 l3 : Value) (s0 : Nat) (s1 : Int32) (H : HS) : rn 233 54 [l0, l1, l2, l3] [.ref s0, .int s1] H = gk 233 57 [l0, l1, l2, l3] [.int s1] H (gfd H 5 19 s0) := (rn_ev ..).trans (ev_gk rfl)
theorem x233_57 (l0 l1 l2 l3 : Value) (s0 : Int32) (s1 : Int32) (H : HS) : rn 233 57 [l0, l1, l2, l3] [.int s0, .int s1] H = if s1 < s0 then rn 233 60 [l0, l1, l2, l3] [] H else rn 233 64 [l0, l1, l2, l3] [] H := (rn_ev ..).trans (ev_bin rfl)
theorem x233_60 (l0 l1 l2 l3 : Value) (H : HS) : rn 233 60 [l0, l1, l2, l3] [] H = rn 233 61 [l0, l1, l2, l3] [.int 1] H := rn_nx rfl
theorem x233_61 (l0 l1 l2 l3 : Value) (s0 : Int32) (H : HS) : rn 233 61 [l0, l1, l2, l3] [.int s0] H = rn 233 65 [l0, l1, l2, l3] [.int s0] H := rn_nx rfl
theorem x233_65 (l0 l1 l2 l3 : Value) (s0 : Int32) (H : HS) : rn 233 65 [l0, l1, l2, l3] [.int s0] H = rn 233 66 [(kl l0), .int s0, l2, l3] [] H := rn_nx rfl
theorem x233_66 (l0 l2 l3 : Value) (l1 : Int32) (H : HS) : rn 233 66 [l0, .int l1, l2, l3] [] H = rn 233 67 [l0, .int l1, l2, l3] [.int l1] H := rn_nx rfl
theorem x233_67 (l0 l1 l2 l3 : Value) (s0 : Int32) (H : HS) : rn 233 67 [l0, l1, l2, l3] [.int s0] H = if s0 = 0 then rn 233 34 [l0, l1, l2, l3] [] H else rn 233 70 [l0, l1, l2, l3] [] H := (rn_ev ..).trans (ev_bif rfl)
theorem x233_70 (l1 l2 l3 : Value) (l0 : Nat) (H : HS) : rn 233 70 [.ref l0, l1, l2, l3] [] H = rn 233 71 [.ref l0, l1, l2, l3] [.ref l0] H := rn_nx rfl
theorem x233_71 (l0 l1 l2 l3 : Value) (s0 : Nat) (H : HS) : rn 233 71 [l0, l1, l2, l3] [.ref s0] H = rn 233 73 [l0, l1, l2, l3] [.int 59, .ref s0] H := rn_nx rfl
theorem x233_73 (l0 l1 l2 l3 : Value) (s0 : Int32) (s1 : Nat) (H : HS) (h : recv H s1 5 = true) : rn 233 73 [l0, l1, l2, l3] [.int s0, .ref s1] H = bnd true 233 73 [l0, l1, l2, l3] [] (rcal 226 [.ref s1, .int s0] H) := rn_cal (vcal h rfl)
theorem x233_76 (l1 l2 l3 : Value) (l0 : Nat) (H : HS) : rn 233 76 [.ref l0, l1, l2, l3] [] H = rn 233 77 [.ref l0, l1, l2, l3] [.ref l0] H := rn_nx rfl
theorem x233_77 (l0 l1 l2 l3 : Value) (s0 : Nat) (H : HS) : rn 233 77 [l0, l1, l2, l3] [.ref s0] H = gk 233 80 [l0, l1, l2, l3] [] H (gfd H 5 20 s0) := (rn_ev ..).trans (ev_gk rfl)
theorem x233_80 (l0 l1 l2 l3 : Value) (s0 : Int32) (H : HS) : rn 233 80 [l0, l1, l2, l3] [.int s0] H = if s0 = 0 then rn 233 83 [l0, l1, l2, l3] [] H else rn 233 87 [l0, l1, l2, l3] [] H := (rn_ev ..).trans (ev_bin rfl)
theorem x233_83 (l0 l1 l2 l3 : Value) (H : HS) : rn 233 83 [l0, l1, l2, l3] [] H = rn 233 84 [l0, l1, l2, l3] [.int 1] H := rn_nx rfl
theorem x233_84 (l0 l1 l2 l3 : Value) (s0 : Int32) (H : HS) : rn 233 84 [l0, l1, l2, l3] [.int s0] H = rn 233 88 [l0, l1, l2, l3] [.int s0] H := rn_nx rfl
theorem x233_88 (l0 l1 l2 l3 : Value) (s0 : Int32) (H : HS) : rn 233 88 [l0, l1, l2, l3] [.int s0] H = rn 233 89 [(kl l0), .int s0, l2, l3] [] H := rn_nx rfl
theorem x233_89 (l0 l1 l2 l3 : Value) (H : HS) : rn 233 89 [l0, l1, l2, l3] [] H = rn 233 34 [l0, l1, l2, l3] [] H := rn_nx rfl
theorem x233_87 (l0 l1 l2 l3 : Value) (H : HS) : rn 233 87 [l0, l1, l2, l3] [] H = rn 233 88 [l0, l1, l2, l3] [.int 0] H := rn_nx rfl
theorem x233_64 (l0 l1 l2 l3 : Value) (H : HS) : rn 233 64 [l0, l1, l2, l3] [] H = rn 233 65 [l0, l1, l2, l3] [.int 0] H := rn_nx rfl
theorem x233_92 (l1 l2 l3 : Value) (l0 : Nat) (H : HS) : rn 233 92 [.ref l0, l1, l2, l3] [] H = rn 233 93 [.ref l0, l1, l2, l3] [.ref l0] H := rn_nx rfl
theorem x233_93 (l0 l1 l2 l3 : Value) (s0 : Nat) (H : HS) : rn 233 93 [l0, l1, l2, l3] [.ref s0] H = gk 233 96 [l0, l1, l2, l3] [] H (gfd H 5 20 s0) := (rn_ev ..).trans (ev_gk rfl)
theorem x233_96 (l0 l1 l2 l3 : Value) (s0 : Int32) (H : HS) : rn 233 96 [l0, l1, l2, l3] [.int s0] H = if s0 = 0 then rn 233 113 [l0, l1, l2, l3] [] H else rn 233 99 [l0, l1, l2, l3] [] H := (rn_ev ..).trans (ev_bif rfl)
theorem x233_99 (l1 l2 l3 : Value) (l0 : Nat) (H : HS) : rn 233 99 [.ref l0, l1, l2, l3] [] H = rn 233 100 [.ref l0, l1, l2, l3] [.ref l0] H := rn_nx rfl
theorem x233_100 (l1 l2 l3 : Value) (l0 : Nat) (s0 : Nat) (H : HS) : rn 233 100 [.ref l0, l1, l2, l3] [.ref s0] H = rn 233 101 [.ref l0, l1, l2, l3] [.ref l0, .ref s0] H := rn_nx rfl
theorem x233_101 (l0 l1 l2 l3 : Value) (s0 : Nat) (s1 : Nat) (H : HS) : rn 233 101 [l0, l1, l2, l3] [.ref s0, .ref s1] H = gk 233 104 [l0, l1, l2, l3] [.ref s1] H (gfd H 5 18 s0) := (rn_ev ..).trans (ev_gk rfl)
theorem x233_104 (l0 l1 l2 l3 : Value) (s0 : Int32) (s1 : Nat) (H : HS) : rn 233 104 [l0, l1, l2, l3] [.int s0, .ref s1] H = pk 233 107 [l0, l1, l2, l3] [] (pfd H true 5 7 s1 (.int s0)) := (rn_ev ..).trans (ev_pk rfl)
theorem x233_107 (l1 l2 l3 : Value) (l0 : Nat) (H : HS) : rn 233 107 [.ref l0, l1, l2, l3] [] H = rn 233 108 [.ref l0, l1, l2, l3] [.ref l0] H := rn_nx rfl
theorem x233_108 (l0 l1 l2 l3 : Value) (s0 : Nat) (H : HS) : rn 233 108 [l0, l1, l2, l3] [.ref s0] H = rn 233 109 [l0, l1, l2, l3] [.int 1, .ref s0] H := rn_nx rfl
theorem x233_109 (l0 l1 l2 l3 : Value) (s0 : Int32) (s1 : Nat) (H : HS) (h : recv H s1 5 = true) : rn 233 109 [l0, l1, l2, l3] [.int s0, .ref s1] H = bnd true 233 109 [l0, l1, l2, l3] [] (rcal 150 [.ref s1, .int s0] H) := rn_cal (vcal h rfl)
theorem x233_112 (l0 l1 l2 l3 : Value) (s0 : Int32) (H : HS) : rn 233 112 [l0, l1, l2, l3] [.int s0] H = some (.inl (some (.int s0)), H) := rn_end rfl
theorem x233_113 (l0 l1 l2 l3 : Value) (H : HS) : rn 233 113 [l0, l1, l2, l3] [] H = rn 233 114 [l0, l1, l2, l3] [.int 0] H := rn_nx rfl
theorem x233_114 (l0 l1 l2 l3 : Value) (s0 : Int32) (H : HS) : rn 233 114 [l0, l1, l2, l3] [.int s0] H = rn 233 115 [l0, (kl l1), .int s0, l3] [] H := rn_nx rfl
theorem x233_115 (l0 l1 l3 : Value) (l2 : Int32) (H : HS) : rn 233 115 [l0, l1, .int l2, l3] [] H = rn 233 116 [l0, l1, .int l2, l3] [.int l2] H := rn_nx rfl
theorem x233_116 (l1 l2 l3 : Value) (l0 : Nat) (s0 : Int32) (H : HS) : rn 233 116 [.ref l0, l1, l2, l3] [.int s0] H = rn 233 117 [.ref l0, l1, l2, l3] [.ref l0, .int s0] H := rn_nx rfl
theorem x233_117 (l0 l1 l2 l3 : Value) (s0 : Nat) (s1 : Int32) (H : HS) : rn 233 117 [l0, l1, l2, l3] [.ref s0, .int s1] H = gk 233 120 [l0, l1, l2, l3] [.int s1] H (gfd H 5 17 s0) := (rn_ev ..).trans (ev_gk rfl)
theorem x233_120 (l0 l1 l2 l3 : Value) (s0 : Int32) (s1 : Int32) (H : HS) : rn 233 120 [l0, l1, l2, l3] [.int s0, .int s1] H = if s1 < s0 then rn 233 123 [l0, l1, l2, l3] [] H else rn 233 180 [l0, l1, l2, l3] [] H := (rn_ev ..).trans (ev_bin rfl)
theorem x233_123 (l1 l2 l3 : Value) (l0 : Nat) (H : HS) : rn 233 123 [.ref l0, l1, l2, l3] [] H = rn 233 124 [.ref l0, l1, l2, l3] [.ref l0] H := rn_nx rfl
theorem x233_124 (l0 l1 l2 l3 : Value) (s0 : Nat) (H : HS) : rn 233 124 [l0, l1, l2, l3] [.ref s0] H = rn 233 125 [l0, l1, l2, l3] [.int 4, .ref s0] H := rn_nx rfl
theorem x233_125 (l0 l1 l3 : Value) (l2 : Int32) (s0 : Int32) (s1 : Nat) (H : HS) : rn 233 125 [l0, l1, .int l2, l3] [.int s0, .ref s1] H = rn 233 126 [l0, l1, .int l2, l3] [.int l2, .int s0, .ref s1] H := rn_nx rfl
theorem x233_126 (l0 l1 l2 l3 : Value) (s0 : Int32) (s1 : Int32) (s2 : Nat) (H : HS) : rn 233 126 [l0, l1, l2, l3] [.int s0, .int s1, .ref s2] H = rn 233 127 [l0, l1, l2, l3] [.int (s1 * s0), .ref s2] H := rn_nx rfl
theorem x233_127 (l0 l1 l2 l3 : Value) (s0 : Int32) (s1 : Nat) (H : HS) (h : recv H s1 5 = true) : rn 233 127 [l0, l1, l2, l3] [.int s0, .ref s1] H = bnd true 233 127 [l0, l1, l2, l3] [] (rcal 232 [.ref s1, .int s0] H) := rn_cal (vcal h rfl)
theorem x233_130 (l1 l2 l3 : Value) (l0 : Nat) (H : HS) : rn 233 130 [.ref l0, l1, l2, l3] [] H = rn 233 131 [.ref l0, l1, l2, l3] [.ref l0] H := rn_nx rfl
theorem x233_131 (l0 l1 l2 l3 : Value) (s0 : Nat) (H : HS) : rn 233 131 [l0, l1, l2, l3] [.ref s0] H = gk 233 134 [l0, l1, l2, l3] [] H (gfd H 5 9 s0) := (rn_ev ..).trans (ev_gk rfl)
theorem x233_134 (l0 l1 l2 l3 : Value) (s0 : Int32) (H : HS) : rn 233 134 [l0, l1, l2, l3] [.int s0] H = if 0 < s0 then rn 233 137 [l0, l1, l2, l3] [] H else rn 233 174 [l0, l1, l2, l3] [] H := (rn_ev ..).trans (ev_bin rfl)
theorem x233_137 (l0 l1 l2 l3 : Value) (H : HS) : rn 233 137 [l0, l1, l2, l3] [] H = rn 233 138 [l0, l1, l2, l3] [.int 0] H := rn_nx rfl
theorem x233_138 (l0 l1 l2 l3 : Value) (s0 : Int32) (H : HS) : rn 233 138 [l0, l1, l2, l3] [.int s0] H = rn 233 139 [l0, l1, (kl l2), .int s0] [] H := rn_nx rfl
theorem x233_139 (l0 l1 l2 : Value) (l3 : Int32) (H : HS) : rn 233 139 [l0, l1, l2, .int l3] [] H = rn 233 140 [l0, l1, l2, .int l3] [.int l3] H := rn_nx rfl
theorem x233_140 (l0 l1 l2 l3 : Value) (s0 : Int32) (H : HS) : rn 233 140 [l0, l1, l2, l3] [.int s0] H = rn 233 142 [l0, l1, l2, l3] [.int 76, .int s0] H := rn_nx rfl
theorem x233_142 (l0 l1 l2 l3 : Value) (s0 : Int32) (s1 : Int32) (H : HS) : rn 233 142 [l0, l1, l2, l3] [.int s0, .int s1] H = if s1 < s0 then rn 233 145 [l0, l1, l2, l3] [] H else rn 233 163 [l0, l1, l2, l3] [] H := (rn_ev ..).trans (ev_bin rfl)
theorem x233_145 (l1 l2 l3 : Value) (l0 : Nat) (H : HS) : rn 233 145 [.ref l0, l1, l2, l3] [] H = rn 233 146 [.ref l0, l1, l2, l3] [.ref l0] H := rn_nx rfl
theorem x233_146 (l0 l1 l2 l3 : Value) (s0 : Nat) (H : HS) : rn 233 146 [l0, l1, l2, l3] [.ref s0] H = gk 233 149 [l0, l1, l2, l3] [] H (gfd H 5 0 s0) := (rn_ev ..).trans (ev_gk rfl)
theorem x233_149 (l0 l1 l2 : Value) (l3 : Int32) (s0 : Nat) (H : HS) : rn 233 149 [l0, l1, l2, .int l3] [.ref s0] H = rn 233 150 [l0, l1, l2, .int l3] [.int l3, .ref s0] H := rn_nx rfl
theorem x233_150 (l1 l2 l3 : Value) (l0 : Nat) (s0 : Int32) (s1 : Nat) (H : HS) : rn 233 150 [.ref l0, l1, l2, l3] [.int s0, .ref s1] H = rn 233 151 [.ref l0, l1, l2, l3] [.ref l0, .int s0, .ref s1] H := rn_nx rfl
theorem x233_151 (l0 l1 l2 l3 : Value) (s0 : Nat) (s1 : Int32) (s2 : Nat) (H : HS) : rn 233 151 [l0, l1, l2, l3] [.ref s0, .int s1, .ref s2] H = gk 233 154 [l0, l1, l2, l3] [.int s1, .ref s2] H (gfd H 5 1 s0) := (rn_ev ..).trans (ev_gk rfl)
theorem x233_154 (l0 l1 l2 : Value) (l3 : Int32) (s0 : Nat) (s1 : Int32) (s2 : Nat) (H : HS) : rn 233 154 [l0, l1, l2, .int l3] [.ref s0, .int s1, .ref s2] H = rn 233 155 [l0, l1, l2, .int l3] [.int l3, .ref s0, .int s1, .ref s2] H := rn_nx rfl
theorem x233_155 (l0 l1 l2 l3 : Value) (s0 : Int32) (s1 : Nat) (s2 : Int32) (s3 : Nat) (H : HS) : rn 233 155 [l0, l1, l2, l3] [.int s0, .ref s1, .int s2, .ref s3] H = gk 233 156 [l0, l1, l2, l3] [.int s2, .ref s3] H (ald H 100 s1 s0) := (rn_ev ..).trans (ev_gk rfl)
theorem x233_156 (l0 l1 l2 l3 : Value) (s0 : Int32) (s1 : Int32) (s2 : Nat) (H : HS) : rn 233 156 [l0, l1, l2, l3] [.int s0, .int s1, .ref s2] H = pk 233 157 [l0, l1, l2, l3] [] (ast H 100 s2 s1 (.int s0)) := (rn_ev ..).trans (ev_pk rfl)
theorem x233_157 (l0 l1 l2 : Value) (l3 : Int32) (H : HS) : rn 233 157 [l0, l1, l2, .int l3] [] H = rn 233 160 [l0, l1, (kl l2), .int (l3 + 1)] [] H := rn_nx rfl
theorem x233_160 (l0 l1 l2 l3 : Value) (H : HS) : rn 233 160 [l0, l1, l2, l3] [] H = rn 233 139 [l0, l1, l2, l3] [] H := rn_nx rfl
theorem x233_163 (l1 l2 l3 : Value) (l0 : Nat) (H : HS) : rn 233 163 [.ref l0, l1, l2, l3] [] H = rn 233 164 [.ref l0, l1, l2, l3] [.ref l0] H := rn_nx rfl
theorem x233_164 (l0 l1 l3 : Value) (l2 : Int32) (s0 : Nat) (H : HS) : rn 233 164 [l0, l1, .int l2, l3] [.ref s0] H = rn 233 165 [l0, l1, .int l2, l3] [.int l2, .ref s0] H := rn_nx rfl
theorem x233_165 (l0 l1 l2 l3 : Value) (s0 : Int32) (s1 : Nat) (H : HS) : rn 233 165 [l0, l1, l2, l3] [.int s0, .ref s1] H = pk 233 168 [l0, l1, l2, l3] [] (pfd H true 5 8 s1 (.int s0)) := (rn_ev ..).trans (ev_pk rfl)
theorem x233_168 (l1 l2 l3 : Value) (l0 : Nat) (H : HS) : rn 233 168 [.ref l0, l1, l2, l3] [] H = rn 233 169 [.ref l0, l1, l2, l3] [.ref l0] H := rn_nx rfl
theorem x233_169 (l0 l1 l2 l3 : Value) (s0 : Nat) (H : HS) : rn 233 169 [l0, l1, l2, l3] [.ref s0] H = rn 233 170 [l0, l1, l2, l3] [.int 2, .ref s0] H := rn_nx rfl
theorem x233_170 (l0 l1 l2 l3 : Value) (s0 : Int32) (s1 : Nat) (H : HS) (h : recv H s1 5 = true) : rn 233 170 [l0, l1, l2, l3] [.int s0, .ref s1] H = bnd true 233 170 [l0, l1, l2, l3] [] (rcal 150 [.ref s1, .int s0] H) := rn_cal (vcal h rfl)
theorem x233_173 (l0 l1 l2 l3 : Value) (s0 : Int32) (H : HS) : rn 233 173 [l0, l1, l2, l3] [.int s0] H = some (.inl (some (.int s0)), H) := rn_end rfl
theorem x233_174 (l0 l1 l3 : Value) (l2 : Int32) (H : HS) : rn 233 174 [l0, l1, .int l2, l3] [] H = rn 233 177 [l0, (kl l1), .int (l2 + 1), l3] [] H := rn_nx rfl
theorem x233_177 (l0 l1 l2 l3 : Value) (H : HS) : rn 233 177 [l0, l1, l2, l3] [] H = rn 233 115 [l0, l1, l2, l3] [] H := rn_nx rfl
theorem x233_180 (l1 l2 l3 : Value) (l0 : Nat) (H : HS) : rn 233 180 [.ref l0, l1, l2, l3] [] H = rn 233 181 [.ref l0, l1, l2, l3] [.ref l0] H := rn_nx rfl
theorem x233_181 (l1 l2 l3 : Value) (l0 : Nat) (s0 : Nat) (H : HS) : rn 233 181 [.ref l0, l1, l2, l3] [.ref s0] H = rn 233 182 [.ref l0, l1, l2, l3] [.ref l0, .ref s0] H := rn_nx rfl
theorem x233_182 (l0 l1 l2 l3 : Value) (s0 : Nat) (s1 : Nat) (H : HS) : rn 233 182 [l0, l1, l2, l3] [.ref s0, .ref s1] H = gk 233 185 [l0, l1, l2, l3] [.ref s1] H (gfd H 5 17 s0) := (rn_ev ..).trans (ev_gk rfl)
theorem x233_185 (l0 l1 l2 l3 : Value) (s0 : Int32) (s1 : Nat) (H : HS) (h : recv H s1 5 = true) : rn 233 185 [l0, l1, l2, l3] [.int s0, .ref s1] H = bnd true 233 185 [l0, l1, l2, l3] [] (rcal 153 [.ref s1, .int s0] H) := rn_cal (vcal h rfl)
theorem x233_188 (l0 l1 l2 l3 : Value) (s0 : Int32) (H : HS) : rn 233 188 [l0, l1, l2, l3] [.int s0] H = some (.inl (some (.int s0)), H) := rn_end rfl
theorem c233 (a0 : Nat) (H : HS) : rcal 233 [.ref a0] H = rn 233 0 [.ref a0, un, un, un] [] H := rfl
theorem x234_0 (l0 : Nat) (H : HS) : rn 234 0 [.ref l0] [] H = rn 234 1 [.ref l0] [.ref l0] H := rn_nx rfl
theorem x234_1 (l0 : Value) (s0 : Nat) (H : HS) : rn 234 1 [l0] [.ref s0] H = rn 234 2 [l0] [.int 0, .ref s0] H := rn_nx rfl
theorem x234_2 (l0 : Value) (s0 : Int32) (s1 : Nat) (H : HS) : rn 234 2 [l0] [.int s0, .ref s1] H = pk 234 5 [l0] [] (pfd H true 5 9 s1 (.int s0)) := (rn_ev ..).trans (ev_pk rfl)
theorem x234_5 (l0 : Nat) (H : HS) : rn 234 5 [.ref l0] [] H = rn 234 6 [.ref l0] [.ref l0] H := rn_nx rfl
theorem x234_6 (l0 : Value) (s0 : Nat) (H : HS) : rn 234 6 [l0] [.ref s0] H = gk 234 9 [l0] [] H (gfd H 5 7 s0) := (rn_ev ..).trans (ev_gk rfl)
theorem x234_9 (l0 : Value) (s0 : Int32) (H : HS) : rn 234 9 [l0] [.int s0] H = rn 234 10 [l0] [.int (-1), .int s0] H := rn_nx rfl
theorem x234_10 (l0 : Value) (s0 : Int32) (s1 : Int32) (H : HS) : rn 234 10 [l0] [.int s0, .int s1] H = if s1 = s0 then rn 234 13 [l0] [] H else rn 234 21 [l0] [] H := (rn_ev ..).trans (ev_bin rfl)
theorem x234_13 (l0 : Nat) (H : HS) : rn 234 13 [.ref l0] [] H = rn 234 14 [.ref l0] [.ref l0] H := rn_nx rfl
theorem x234_14 (l0 : Value) (s0 : Nat) (H : HS) : rn 234 14 [l0] [.ref s0] H = rn 234 15 [l0] [.int 1, .ref s0] H := rn_nx rfl
theorem x234_15 (l0 : Value) (s0 : Int32) (s1 : Nat) (H : HS) (h : recv H s1 5 = true) : rn 234 15 [l0] [.int s0, .ref s1] H = bnd true 234 15 [l0] [] (rcal 150 [.ref s1, .int s0] H) := rn_cal (vcal h rfl)
theorem x234_18 (l0 : Value) (s0 : Int32) (H : HS) : rn 234 18 [l0] [.int s0] H = rn 234 25 [l0] [.int s0] H := rn_nx rfl
theorem x234_25 (l0 : Value) (s0 : Int32) (H : HS) : rn 234 25 [l0] [.int s0] H = some (.inl (some (.int s0)), H) := rn_end rfl
theorem x234_21 (l0 : Nat) (H : HS) : rn 234 21 [.ref l0] [] H = rn 234 22 [.ref l0] [.ref l0] H := rn_nx rfl
theorem x234_22 (l0 : Value) (s0 : Nat) (H : HS) : rn 234 22 [l0] [.ref s0] H = gk 234 25 [l0] [] H (gfd H 5 7 s0) := (rn_ev ..).trans (ev_gk rfl)
theorem c234 (a0 : Nat) (H : HS) : rcal 234 [.ref a0] H = rn 234 0 [.ref a0] [] H := rfl
theorem x235_0 (l0 : Nat) (H : HS) : rn 235 0 [.ref l0] [] H = rn 235 1 [.ref l0] [.ref l0] H := rn_nx rfl
theorem x235_1 (l0 : Value) (s0 : Nat) (H : HS) : rn 235 1 [l0] [.ref s0] H = rn 235 2 [l0] [.int 0, .ref s0] H := rn_nx rfl
theorem x235_2 (l0 : Value) (s0 : Int32) (s1 : Nat) (H : HS) : rn 235 2 [l0] [.int s0, .ref s1] H = pk 235 5 [l0] [] (pfd H true 5 9 s1 (.int s0)) := (rn_ev ..).trans (ev_pk rfl)
theorem x235_5 (l0 : Nat) (H : HS) : rn 235 5 [.ref l0] [] H = rn 235 6 [.ref l0] [.ref l0] H := rn_nx rfl
theorem x235_6 (l0 : Value) (s0 : Nat) (H : HS) : rn 235 6 [l0] [.ref s0] H = gk 235 9 [l0] [] H (gfd H 5 8 s0) := (rn_ev ..).trans (ev_gk rfl)
theorem x235_9 (l0 : Value) (s0 : Int32) (H : HS) : rn 235 9 [l0] [.int s0] H = rn 235 10 [l0] [.int (-1), .int s0] H := rn_nx rfl
theorem x235_10 (l0 : Value) (s0 : Int32) (s1 : Int32) (H : HS) : rn 235 10 [l0] [.int s0, .int s1] H = if s1 = s0 then rn 235 13 [l0] [] H else rn 235 21 [l0] [] H := (rn_ev ..).trans (ev_bin rfl)
theorem x235_13 (l0 : Nat) (H : HS) : rn 235 13 [.ref l0] [] H = rn 235 14 [.ref l0] [.ref l0] H := rn_nx rfl
theorem x235_14 (l0 : Value) (s0 : Nat) (H : HS) : rn 235 14 [l0] [.ref s0] H = rn 235 15 [l0] [.int 1, .ref s0] H := rn_nx rfl
theorem x235_15 (l0 : Value) (s0 : Int32) (s1 : Nat) (H : HS) (h : recv H s1 5 = true) : rn 235 15 [l0] [.int s0, .ref s1] H = bnd true 235 15 [l0] [] (rcal 150 [.ref s1, .int s0] H) := rn_cal (vcal h rfl)
theorem x235_18 (l0 : Value) (s0 : Int32) (H : HS) : rn 235 18 [l0] [.int s0] H = rn 235 25 [l0] [.int s0] H := rn_nx rfl
theorem x235_25 (l0 : Value) (s0 : Int32) (H : HS) : rn 235 25 [l0] [.int s0] H = some (.inl (some (.int s0)), H) := rn_end rfl
theorem x235_21 (l0 : Nat) (H : HS) : rn 235 21 [.ref l0] [] H = rn 235 22 [.ref l0] [.ref l0] H := rn_nx rfl
theorem x235_22 (l0 : Value) (s0 : Nat) (H : HS) : rn 235 22 [l0] [.ref s0] H = gk 235 25 [l0] [] H (gfd H 5 8 s0) := (rn_ev ..).trans (ev_gk rfl)
theorem c235 (a0 : Nat) (H : HS) : rcal 235 [.ref a0] H = rn 235 0 [.ref a0] [] H := rfl
theorem x236_0 (l1 : Value) (l0 : Nat) (H : HS) : rn 236 0 [.ref l0, l1] [] H = rn 236 1 [.ref l0, l1] [.ref l0] H := rn_nx rfl
theorem x236_1 (l0 l1 : Value) (s0 : Nat) (H : HS) : rn 236 1 [l0, l1] [.ref s0] H = gk 236 4 [l0, l1] [] H (gfd H 5 21 s0) := (rn_ev ..).trans (ev_gk rfl)
theorem x236_4 (l1 : Value) (l0 : Nat) (s0 : Nat) (H : HS) : rn 236 4 [.ref l0, l1] [.ref s0] H = rn 236 5 [.ref l0, l1] [.ref l0, .ref s0] H := rn_nx rfl
theorem x236_5 (l0 l1 : Value) (s0 : Nat) (s1 : Nat) (H : HS) : rn 236 5 [l0, l1] [.ref s0, .ref s1] H = gk 236 8 [l0, l1] [.ref s1] H (gfd H 5 22 s0) := (rn_ev ..).trans (ev_gk rfl)
theorem x236_8 (l0 : Value) (l1 : Int32) (s0 : Int32) (s1 : Nat) (H : HS) : rn 236 8 [l0, .int l1] [.int s0, .ref s1] H = rn 236 9 [l0, .int l1] [.int l1, .int s0, .ref s1] H := rn_nx rfl
theorem x236_9 (l0 l1 : Value) (s0 : Int32) (s1 : Int32) (s2 : Nat) (H : HS) : rn 236 9 [l0, l1] [.int s0, .int s1, .ref s2] H = pk 236 10 [l0, l1] [] (ast H 100 s2 s1 (.int s0)) := (rn_ev ..).trans (ev_pk rfl)
theorem x236_10 (l1 : Value) (l0 : Nat) (H : HS) : rn 236 10 [.ref l0, l1] [] H = rn 236 11 [.ref l0, l1] [.ref l0] H := rn_nx rfl
theorem x236_11 (l0 l1 : Value) (s0 : Nat) (H : HS) : rn 236 11 [l0, l1] [.ref s0] H = rn 236 12 [l0, l1] [.ref s0, .ref s0] H := rn_nx rfl
theorem x236_12 (l0 l1 : Value) (s0 : Nat) (s1 : Nat) (H : HS) : rn 236 12 [l0, l1] [.ref s0, .ref s1] H = gk 236 15 [l0, l1] [.ref s1] H (gfd H 5 22 s0) := (rn_ev ..).trans (ev_gk rfl)
theorem x236_15 (l0 l1 : Value) (s0 : Int32) (s1 : Nat) (H : HS) : rn 236 15 [l0, l1] [.int s0, .ref s1] H = rn 236 16 [l0, l1] [.int 1, .int s0, .ref s1] H := rn_nx rfl
theorem x236_16 (l0 l1 : Value) (s0 : Int32) (s1 : Int32) (s2 : Nat) (H : HS) : rn 236 16 [l0, l1] [.int s0, .int s1, .ref s2] H = rn 236 17 [l0, l1] [.int (s1 + s0), .ref s2] H := rn_nx rfl
theorem x236_17 (l0 l1 : Value) (s0 : Int32) (s1 : Nat) (H : HS) : rn 236 17 [l0, l1] [.int s0, .ref s1] H = pk 236 20 [l0, l1] [] (pfd H true 5 22 s1 (.int s0)) := (rn_ev ..).trans (ev_pk rfl)
theorem x236_20 (l0 l1 : Value) (H : HS) : rn 236 20 [l0, l1] [] H = some (.inl none, H) := rn_end rfl
theorem c236 (a0 : Nat) (a1 : Int32) (H : HS) : rcal 236 [.ref a0, .int a1] H = rn 236 0 [.ref a0, .int a1] [] H := rfl
theorem x237_0 (l0 l1 l2 : Value) (H : HS) : rn 237 0 [l0, l1, l2] [] H = rn 237 1 [l0, l1, l2] [.int 1] H := rn_nx rfl
theorem x237_1 (l0 l1 l2 : Value) (s0 : Int32) (H : HS) : rn 237 1 [l0, l1, l2] [.int s0] H = rn 237 2 [l0, (kl l1), .int s0] [] H := rn_nx rfl
theorem x237_2 (l0 l2 : Value) (l1 : Int32) (H : HS) : rn 237 2 [l0, .int l1, l2] [] H = rn 237 3 [l0, .int l1, l2] [.int l1] H := rn_nx rfl
theorem x237_3 (l0 l1 : Value) (l2 : Int32) (s0 : Int32) (H : HS) : rn 237 3 [l0, l1, .int l2] [.int s0] H = rn 237 4 [l0, l1, .int l2] [.int l2, .int s0] H := rn_nx rfl
theorem x237_4 (l0 l1 l2 : Value) (s0 : Int32) (s1 : Int32) (H : HS) : rn 237 4 [l0, l1, l2] [.int s0, .int s1] H = if s0 = 0 then none else rn 237 5 [l0, l1, l2] [.int (s1 / s0)] H := (rn_ev ..).trans (ev_if rfl)
theorem x237_5 (l0 l1 l2 : Value) (s0 : Int32) (H : HS) : rn 237 5 [l0, l1, l2] [.int s0] H = rn 237 7 [l0, l1, l2] [.int 9, .int s0] H := rn_nx rfl
theorem x237_7 (l0 l1 l2 : Value) (s0 : Int32) (s1 : Int32) (H : HS) : rn 237 7 [l0, l1, l2] [.int s0, .int s1] H = if s0 < s1 then rn 237 10 [l0, l1, l2] [] H else rn 237 18 [l0, l1, l2] [] H := (rn_ev ..).trans (ev_bin rfl)
theorem x237_10 (l0 l1 : Value) (l2 : Int32) (H : HS) : rn 237 10 [l0, l1, .int l2] [] H = rn 237 11 [l0, l1, .int l2] [.int l2] H := rn_nx rfl
theorem x237_11 (l0 l1 l2 : Value) (s0 : Int32) (H : HS) : rn 237 11 [l0, l1, l2] [.int s0] H = rn 237 13 [l0, l1, l2] [.int 10, .int s0] H := rn_nx rfl
theorem x237_13 (l0 l1 l2 : Value) (s0 : Int32) (s1 : Int32) (H : HS) : rn 237 13 [l0, l1, l2] [.int s0, .int s1] H = rn 237 14 [l0, l1, l2] [.int (s1 * s0)] H := rn_nx rfl
theorem x237_14 (l0 l1 l2 : Value) (s0 : Int32) (H : HS) : rn 237 14 [l0, l1, l2] [.int s0] H = rn 237 15 [l0, (kl l1), .int s0] [] H := rn_nx rfl
theorem x237_15 (l0 l1 l2 : Value) (H : HS) : rn 237 15 [l0, l1, l2] [] H = rn 237 2 [l0, l1, l2] [] H := rn_nx rfl
theorem x237_18 (l0 l1 : Value) (l2 : Int32) (H : HS) : rn 237 18 [l0, l1, .int l2] [] H = rn 237 19 [l0, l1, .int l2] [.int l2] H := rn_nx rfl
theorem x237_19 (l0 l1 l2 : Value) (s0 : Int32) (H : HS) : rn 237 19 [l0, l1, l2] [.int s0] H = if 0 < s0 then rn 237 22 [l0, l1, l2] [] H else rn 237 43 [l0, l1, l2] [] H := (rn_ev ..).trans (ev_bin rfl)
theorem x237_22 (l1 l2 : Value) (l0 : Nat) (H : HS) : rn 237 22 [.ref l0, l1, l2] [] H = rn 237 23 [.ref l0, l1, l2] [.ref l0] H := rn_nx rfl
theorem x237_23 (l0 l1 l2 : Value) (s0 : Nat) (H : HS) : rn 237 23 [l0, l1, l2] [.ref s0] H = rn 237 25 [l0, l1, l2] [.int 48, .ref s0] H := rn_nx rfl
theorem x237_25 (l0 l2 : Value) (l1 : Int32) (s0 : Int32) (s1 : Nat) (H : HS) : rn 237 25 [l0, .int l1, l2] [.int s0, .ref s1] H = rn 237 26 [l0, .int l1, l2] [.int l1, .int s0, .ref s1] H := rn_nx rfl
theorem x237_26 (l0 l1 : Value) (l2 : Int32) (s0 : Int32) (s1 : Int32) (s2 : Nat) (H : HS) : rn 237 26 [l0, l1, .int l2] [.int s0, .int s1, .ref s2] H = rn 237 27 [l0, l1, .int l2] [.int l2, .int s0, .int s1, .ref s2] H := rn_nx rfl
theorem x237_27 (l0 l1 l2 : Value) (s0 : Int32) (s1 : Int32) (s2 : Int32) (s3 : Nat) (H : HS) : rn 237 27 [l0, l1, l2] [.int s0, .int s1, .int s2, .ref s3] H = if s0 = 0 then none else rn 237 28 [l0, l1, l2] [.int (s1 / s0), .int s2, .ref s3] H := (rn_ev ..).trans (ev_if rfl)
theorem x237_28 (l0 l1 l2 : Value) (s0 : Int32) (s1 : Int32) (s2 : Nat) (H : HS) : rn 237 28 [l0, l1, l2] [.int s0, .int s1, .ref s2] H = rn 237 30 [l0, l1, l2] [.int 10, .int s0, .int s1, .ref s2] H := rn_nx rfl
theorem x237_30 (l0 l1 l2 : Value) (s0 : Int32) (s1 : Int32) (s2 : Int32) (s3 : Nat) (H : HS) : rn 237 30 [l0, l1, l2] [.int s0, .int s1, .int s2, .ref s3] H = if s0 = 0 then none else rn 237 31 [l0, l1, l2] [.int (s1 - s1 / s0 * s0), .int s2, .ref s3] H := (rn_ev ..).trans (ev_if rfl)
theorem x237_31 (l0 l1 l2 : Value) (s0 : Int32) (s1 : Int32) (s2 : Nat) (H : HS) : rn 237 31 [l0, l1, l2] [.int s0, .int s1, .ref s2] H = rn 237 32 [l0, l1, l2] [.int (s1 + s0), .ref s2] H := rn_nx rfl
theorem x237_32 (l0 l1 l2 : Value) (s0 : Int32) (s1 : Nat) (H : HS) (h : recv H s1 5 = true) : rn 237 32 [l0, l1, l2] [.int s0, .ref s1] H = bnd true 237 32 [l0, l1, l2] [] (rcal 236 [.ref s1, .int s0] H) := rn_cal (vcal h rfl)
theorem x237_35 (l0 l1 : Value) (l2 : Int32) (H : HS) : rn 237 35 [l0, l1, .int l2] [] H = rn 237 36 [l0, l1, .int l2] [.int l2] H := rn_nx rfl
theorem x237_36 (l0 l1 l2 : Value) (s0 : Int32) (H : HS) : rn 237 36 [l0, l1, l2] [.int s0] H = rn 237 38 [l0, l1, l2] [.int 10, .int s0] H := rn_nx rfl
theorem x237_38 (l0 l1 l2 : Value) (s0 : Int32) (s1 : Int32) (H : HS) : rn 237 38 [l0, l1, l2] [.int s0, .int s1] H = if s0 = 0 then none else rn 237 39 [l0, l1, l2] [.int (s1 / s0)] H := (rn_ev ..).trans (ev_if rfl)
theorem x237_39 (l0 l1 l2 : Value) (s0 : Int32) (H : HS) : rn 237 39 [l0, l1, l2] [.int s0] H = rn 237 40 [l0, (kl l1), .int s0] [] H := rn_nx rfl
theorem x237_40 (l0 l1 l2 : Value) (H : HS) : rn 237 40 [l0, l1, l2] [] H = rn 237 18 [l0, l1, l2] [] H := rn_nx rfl
theorem x237_43 (l0 l1 l2 : Value) (H : HS) : rn 237 43 [l0, l1, l2] [] H = some (.inl none, H) := rn_end rfl
theorem c237 (a0 : Nat) (a1 : Int32) (H : HS) : rcal 237 [.ref a0, .int a1] H = rn 237 0 [.ref a0, .int a1, un] [] H := rfl
theorem x238_0 (l1 l2 l3 : Value) (l0 : Nat) (H : HS) : rn 238 0 [.ref l0, l1, l2, l3] [] H = rn 238 1 [.ref l0, l1, l2, l3] [.ref l0] H := rn_nx rfl
theorem x238_1 (l0 l1 l2 l3 : Value) (s0 : Nat) (H : HS) : rn 238 1 [l0, l1, l2, l3] [.ref s0] H = rn 238 2 [l0, l1, l2, l3] [.int 0, .ref s0] H := rn_nx rfl
theorem x238_2 (l0 l1 l2 l3 : Value) (s0 : Int32) (s1 : Nat) (H : HS) : rn 238 2 [l0, l1, l2, l3] [.int s0, .ref s1] H = pk 238 5 [l0, l1, l2, l3] [] (pfd H true 5 9 s1 (.int s0)) := (rn_ev ..).trans (ev_pk rfl)
theorem x238_5 (l1 l2 l3 : Value) (l0 : Nat) (H : HS) : rn 238 5 [.ref l0, l1, l2, l3] [] H = rn 238 6 [.ref l0, l1, l2, l3] [.ref l0] H := rn_nx rfl
theorem x238_6 (l0 l1 l2 l3 : Value) (s0 : Nat) (H : HS) : rn 238 6 [l0, l1, l2, l3] [.ref s0] H = rn 238 7 [l0, l1, l2, l3] [.int 0, .ref s0] H := rn_nx rfl
theorem x238_7 (l0 l1 l2 l3 : Value) (s0 : Int32) (s1 : Nat) (H : HS) : rn 238 7 [l0, l1, l2, l3] [.int s0, .ref s1] H = pk 238 10 [l0, l1, l2, l3] [] (pfd H true 5 22 s1 (.int s0)) := (rn_ev ..).trans (ev_pk rfl)
theorem x238_10 (l0 l1 l2 l3 : Value) (H : HS) : rn 238 10 [l0, l1, l2, l3] [] H = rn 238 11 [l0, l1, l2, l3] [.int 0] H := rn_nx rfl
theorem x238_11 (l0 l1 l2 l3 : Value) (s0 : Int32) (H : HS) : rn 238 11 [l0, l1, l2, l3] [.int s0] H = rn 238 12 [(kl l0), .int s0, l2, l3] [] H := rn_nx rfl
theorem x238_12 (l0 l2 l3 : Value) (l1 : Int32) (H : HS) : rn 238 12 [l0, .int l1, l2, l3] [] H = rn 238 13 [l0, .int l1, l2, l3] [.int l1] H := rn_nx rfl
theorem x238_13 (l1 l2 l3 : Value) (l0 : Nat) (s0 : Int32) (H : HS) : rn 238 13 [.ref l0, l1, l2, l3] [.int s0] H = rn 238 14 [.ref l0, l1, l2, l3] [.ref l0, .int s0] H := rn_nx rfl
theorem x238_14 (l0 l1 l2 l3 : Value) (s0 : Nat) (s1 : Int32) (H : HS) : rn 238 14 [l0, l1, l2, l3] [.ref s0, .int s1] H = gk 238 17 [l0, l1, l2, l3] [.int s1] H (gfd H 5 0 s0) := (rn_ev ..).trans (ev_gk rfl)
theorem x238_17 (l0 l1 l2 l3 : Value) (s0 : Nat) (s1 : Int32) (H : HS) : rn 238 17 [l0, l1, l2, l3] [.ref s0, .int s1] H = rn 238 18 [l0, l1, l2, l3] [.int 0, .ref s0, .int s1] H := rn_nx rfl
theorem x238_18 (l0 l1 l2 l3 : Value) (s0 : Int32) (s1 : Nat) (s2 : Int32) (H : HS) : rn 238 18 [l0, l1, l2, l3] [.int s0, .ref s1, .int s2] H = gk 238 19 [l0, l1, l2, l3] [.int s2] H (ald H 100 s1 s0) := (rn_ev ..).trans (ev_gk rfl)
theorem x238_19 (l0 l1 l2 l3 : Value) (s0 : Int32) (s1 : Int32) (H : HS) : rn 238 19 [l0, l1, l2, l3] [.int s0, .int s1] H = if s1 < s0 then rn 238 22 [l0, l1, l2, l3] [] H else rn 238 180 [l0, l1, l2, l3] [] H := (rn_ev ..).trans (ev_bin rfl)
theorem x238_22 (l1 l2 l3 : Value) (l0 : Nat) (H : HS) : rn 238 22 [.ref l0, l1, l2, l3] [] H = rn 238 23 [.ref l0, l1, l2, l3] [.ref l0] H := rn_nx rfl
theorem x238_23 (l0 l1 l2 l3 : Value) (s0 : Nat) (H : HS) : rn 238 23 [l0, l1, l2, l3] [.ref s0] H = rn 238 25 [l0, l1, l2, l3] [.int 91, .ref s0] H := rn_nx rfl
theorem x238_25 (l0 l1 l2 l3 : Value) (s0 : Int32) (s1 : Nat) (H : HS) (h : recv H s1 5 = true) : rn 238 25 [l0, l1, l2, l3] [.int s0, .ref s1] H = bnd true 238 25 [l0, l1, l2, l3] [] (rcal 236 [.ref s1, .int s0] H) := rn_cal (vcal h rfl)
theorem x238_28 (l0 l1 l2 l3 : Value) (H : HS) : rn 238 28 [l0, l1, l2, l3] [] H = rn 238 29 [l0, l1, l2, l3] [.int 0] H := rn_nx rfl
theorem x238_29 (l0 l1 l2 l3 : Value) (s0 : Int32) (H : HS) : rn 238 29 [l0, l1, l2, l3] [.int s0] H = rn 238 30 [l0, (kl l1), .int s0, l3] [] H := rn_nx rfl
theorem x238_30 (l0 l1 l2 l3 : Value) (H : HS) : rn 238 30 [l0, l1, l2, l3] [] H = rn 238 31 [l0, l1, l2, l3] [.int 0] H := rn_nx rfl
theorem x238_31 (l0 l1 l2 l3 : Value) (s0 : Int32) (H : HS) : rn 238 31 [l0, l1, l2, l3] [.int s0] H = rn 238 32 [l0, l1, (kl l2), .int s0] [] H := rn_nx rfl
theorem x238_32 (l0 l1 l2 : Value) (l3 : Int32) (H : HS) : rn 238 32 [l0, l1, l2, .int l3] [] H = rn 238 33 [l0, l1, l2, .int l3] [.int l3] H := rn_nx rfl
theorem x238_33 (l1 l2 l3 : Value) (l0 : Nat) (s0 : Int32) (H : HS) : rn 238 33 [.ref l0, l1, l2, l3] [.int s0] H = rn 238 34 [.ref l0, l1, l2, l3] [.ref l0, .int s0] H := rn_nx rfl
theorem x238_34 (l0 l1 l2 l3 : Value) (s0 : Nat) (s1 : Int32) (H : HS) : rn 238 34 [l0, l1, l2, l3] [.ref s0, .int s1] H = gk 238 37 [l0, l1, l2, l3] [.int s1] H (gfd H 5 0 s0) := (rn_ev ..).trans (ev_gk rfl)
theorem x238_37 (l0 l1 l2 l3 : Value) (s0 : Nat) (s1 : Int32) (H : HS) : rn 238 37 [l0, l1, l2, l3] [.ref s0, .int s1] H = rn 238 38 [l0, l1, l2, l3] [.int 1, .ref s0, .int s1] H := rn_nx rfl
theorem x238_38 (l0 l1 l2 l3 : Value) (s0 : Int32) (s1 : Nat) (s2 : Int32) (H : HS) : rn 238 38 [l0, l1, l2, l3] [.int s0, .ref s1, .int s2] H = gk 238 39 [l0, l1, l2, l3] [.int s2] H (ald H 100 s1 s0) := (rn_ev ..).trans (ev_gk rfl)
theorem x238_39 (l0 l1 l2 l3 : Value) (s0 : Int32) (s1 : Int32) (H : HS) : rn 238 39 [l0, l1, l2, l3] [.int s0, .int s1] H = if s1 < s0 then rn 238 42 [l0, l1, l2, l3] [] H else rn 238 104 [l0, l1, l2, l3] [] H := (rn_ev ..).trans (ev_bin rfl)
theorem x238_42 (l1 l2 l3 : Value) (l0 : Nat) (H : HS) : rn 238 42 [.ref l0, l1, l2, l3] [] H = rn 238 43 [.ref l0, l1, l2, l3] [.ref l0] H := rn_nx rfl
theorem x238_43 (l0 l1 l2 l3 : Value) (s0 : Nat) (H : HS) : rn 238 43 [l0, l1, l2, l3] [.ref s0] H = gk 238 46 [l0, l1, l2, l3] [] H (gfd H 5 0 s0) := (rn_ev ..).trans (ev_gk rfl)
theorem x238_46 (l0 l1 l2 : Value) (l3 : Int32) (s0 : Nat) (H : HS) : rn 238 46 [l0, l1, l2, .int l3] [.ref s0] H = rn 238 47 [l0, l1, l2, .int l3] [.int l3, .ref s0] H := rn_nx rfl
theorem x238_47 (l0 l1 l2 l3 : Value) (s0 : Int32) (s1 : Nat) (H : HS) : rn 238 47 [l0, l1, l2, l3] [.int s0, .ref s1] H = bnd true 238 47 [l0, l1, l2, l3] [.ref s1] (rcal 154 [.int s0] H) := rn_cal rfl
theorem x238_50 (l0 l1 l2 l3 : Value) (s0 : Int32) (s1 : Nat) (H : HS) : rn 238 50 [l0, l1, l2, l3] [.int s0, .ref s1] H = rn 238 51 [l0, l1, l2, l3] [.int 4, .int s0, .ref s1] H := rn_nx rfl
theorem x238_51 (l0 l1 l2 l3 : Value) (s0 : Int32) (s1 : Int32) (s2 : Nat) (H : HS) : rn 238 51 [l0, l1, l2, l3] [.int s0, .int s1, .ref s2] H = rn 238 52 [l0, l1, l2, l3] [.int (s1 + s0), .ref s2] H := rn_nx rfl
theorem x238_52 (l0 l1 l2 l3 : Value) (s0 : Int32) (s1 : Nat) (H : HS) : rn 238 52 [l0, l1, l2, l3] [.int s0, .ref s1] H = gk 238 53 [l0, l1, l2, l3] [] H (ald H 100 s1 s0) := (rn_ev ..).trans (ev_gk rfl)
theorem x238_53 (l0 l1 l2 l3 : Value) (s0 : Int32) (H : HS) : rn 238 53 [l0, l1, l2, l3] [.int s0] H = rn 238 54 [l0, l1, l2, l3] [.int 1, .int s0] H := rn_nx rfl
theorem x238_54 (l0 l1 l2 l3 : Value) (s0 : Int32) (s1 : Int32) (H : HS) : rn 238 54 [l0, l1, l2, l3] [.int s0, .int s1] H = if s1 = s0 then rn 238 57 [l0, l1, l2, l3] [] H else rn 238 98 [l0, l1, l2, l3] [] H := (rn_ev ..).trans (ev_bin rfl)
theorem x238_57 (l1 l2 l3 : Value) (l0 : Nat) (H : HS) : rn 238 57 [.ref l0, l1, l2, l3] [] H = rn 238 58 [.ref l0, l1, l2, l3] [.ref l0] H := rn_nx rfl
theorem x238_58 (l0 l1 l2 l3 : Value) (s0 : Nat) (H : HS) : rn 238 58 [l0, l1, l2, l3] [.ref s0] H = gk 238 61 [l0, l1, l2, l3] [] H (gfd H 5 0 s0) := (rn_ev ..).trans (ev_gk rfl)
theorem x238_61 (l0 l1 l2 : Value) (l3 : Int32) (s0 : Nat) (H : HS) : rn 238 61 [l0, l1, l2, .int l3] [.ref s0] H = rn 238 62 [l0, l1, l2, .int l3] [.int l3, .ref s0] H := rn_nx rfl
theorem x238_62 (l0 l1 l2 l3 : Value) (s0 : Int32) (s1 : Nat) (H : HS) : rn 238 62 [l0, l1, l2, l3] [.int s0, .ref s1] H = bnd true 238 62 [l0, l1, l2, l3] [.ref s1] (rcal 154 [.int s0] H) := rn_cal rfl
theorem x238_65 (l0 l1 l2 l3 : Value) (s0 : Int32) (s1 : Nat) (H : HS) : rn 238 65 [l0, l1, l2, l3] [.int s0, .ref s1] H = rn 238 66 [l0, l1, l2, l3] [.int 5, .int s0, .ref s1] H := rn_nx rfl
theorem x238_66 (l0 l1 l2 l3 : Value) (s0 : Int32) (s1 : Int32) (s2 : Nat) (H : HS) : rn 238 66 [l0, l1, l2, l3] [.int s0, .int s1, .ref s2] H = rn 238 67 [l0, l1, l2, l3] [.int (s1 + s0), .ref s2] H := rn_nx rfl
theorem x238_67 (l0 l1 l2 l3 : Value) (s0 : Int32) (s1 : Nat) (H : HS) : rn 238 67 [l0, l1, l2, l3] [.int s0, .ref s1] H = gk 238 68 [l0, l1, l2, l3] [] H (ald H 100 s1 s0) := (rn_ev ..).trans (ev_gk rfl)
theorem x238_68 (l0 l2 l3 : Value) (l1 : Int32) (s0 : Int32) (H : HS) : rn 238 68 [l0, .int l1, l2, l3] [.int s0] H = rn 238 69 [l0, .int l1, l2, l3] [.int l1, .int s0] H := rn_nx rfl
theorem x238_69 (l0 l1 l2 l3 : Value) (s0 : Int32) (s1 : Int32) (H : HS) : rn 238 69 [l0, l1, l2, l3] [.int s0, .int s1] H = if s1 = s0 then rn 238 72 [l0, l1, l2, l3] [] H else rn 238 98 [l0, l1, l2, l3] [] H := (rn_ev ..).trans (ev_bin rfl)
theorem x238_72 (l0 l1 l3 : Value) (l2 : Int32) (H : HS) : rn 238 72 [l0, l1, .int l2, l3] [] H = rn 238 73 [l0, l1, .int l2, l3] [.int l2] H := rn_nx rfl
theorem x238_73 (l0 l1 l2 l3 : Value) (s0 : Int32) (H : HS) : rn 238 73 [l0, l1, l2, l3] [.int s0] H = if 0 < s0 then rn 238 76 [l0, l1, l2, l3] [] H else rn 238 82 [l0, l1, l2, l3] [] H := (rn_ev ..).trans (ev_bin rfl)
theorem x238_76 (l1 l2 l3 : Value) (l0 : Nat) (H : HS) : rn 238 76 [.ref l0, l1, l2, l3] [] H = rn 238 77 [.ref l0, l1, l2, l3] [.ref l0] H := rn_nx rfl
theorem x238_77 (l0 l1 l2 l3 : Value) (s0 : Nat) (H : HS) : rn 238 77 [l0, l1, l2, l3] [.ref s0] H = rn 238 79 [l0, l1, l2, l3] [.int 44, .ref s0] H := rn_nx rfl
theorem x238_79 (l0 l1 l2 l3 : Value) (s0 : Int32) (s1 : Nat) (H : HS) (h : recv H s1 5 = true) : rn 238 79 [l0, l1, l2, l3] [.int s0, .ref s1] H = bnd true 238 79 [l0, l1, l2, l3] [] (rcal 236 [.ref s1, .int s0] H) := rn_cal (vcal h rfl)
theorem x238_82 (l1 l2 l3 : Value) (l0 : Nat) (H : HS) : rn 238 82 [.ref l0, l1, l2, l3] [] H = rn 238 83 [.ref l0, l1, l2, l3] [.ref l0] H := rn_nx rfl
theorem x238_83 (l1 l2 l3 : Value) (l0 : Nat) (s0 : Nat) (H : HS) : rn 238 83 [.ref l0, l1, l2, l3] [.ref s0] H = rn 238 84 [.ref l0, l1, l2, l3] [.ref l0, .ref s0] H := rn_nx rfl
theorem x238_84 (l0 l1 l2 l3 : Value) (s0 : Nat) (s1 : Nat) (H : HS) : rn 238 84 [l0, l1, l2, l3] [.ref s0, .ref s1] H = gk 238 87 [l0, l1, l2, l3] [.ref s1] H (gfd H 5 0 s0) := (rn_ev ..).trans (ev_gk rfl)
theorem x238_87 (l0 l1 l2 : Value) (l3 : Int32) (s0 : Nat) (s1 : Nat) (H : HS) : rn 238 87 [l0, l1, l2, .int l3] [.ref s0, .ref s1] H = rn 238 88 [l0, l1, l2, .int l3] [.int l3, .ref s0, .ref s1] H := rn_nx rfl
theorem x238_88 (l0 l1 l2 l3 : Value) (s0 : Int32) (s1 : Nat) (s2 : Nat) (H : HS) : rn 238 88 [l0, l1, l2, l3] [.int s0, .ref s1, .ref s2] H = bnd true 238 88 [l0, l1, l2, l3] [.ref s1, .ref s2] (rcal 154 [.int s0] H) := rn_cal rfl
theorem x238_91 (l0 l1 l2 l3 : Value) (s0 : Int32) (s1 : Nat) (s2 : Nat) (H : HS) : rn 238 91 [l0, l1, l2, l3] [.int s0, .ref s1, .ref s2] H = gk 238 92 [l0, l1, l2, l3] [.ref s2] H (ald H 100 s1 s0) := (rn_ev ..).trans (ev_gk rfl)
theorem x238_92 (l0 l1 l2 l3 : Value) (s0 : Int32) (s1 : Nat) (H : HS) (h : recv H s1 5 = true) : rn 238 92 [l0, l1, l2, l3] [.int s0, .ref s1] H = bnd true 238 92 [l0, l1, l2, l3] [] (rcal 237 [.ref s1, .int s0] H) := rn_cal (vcal h rfl)
theorem x238_95 (l0 l1 l3 : Value) (l2 : Int32) (H : HS) : rn 238 95 [l0, l1, .int l2, l3] [] H = rn 238 98 [l0, (kl l1), .int (l2 + 1), l3] [] H := rn_nx rfl
theorem x238_98 (l0 l1 l2 : Value) (l3 : Int32) (H : HS) : rn 238 98 [l0, l1, l2, .int l3] [] H = rn 238 101 [l0, l1, (kl l2), .int (l3 + 1)] [] H := rn_nx rfl
theorem x238_101 (l0 l1 l2 l3 : Value) (H : HS) : rn 238 101 [l0, l1, l2, l3] [] H = rn 238 32 [l0, l1, l2, l3] [] H := rn_nx rfl
theorem x238_104 (l1 l2 l3 : Value) (l0 : Nat) (H : HS) : rn 238 104 [.ref l0, l1, l2, l3] [] H = rn 238 105 [.ref l0, l1, l2, l3] [.ref l0] H := rn_nx rfl
theorem x238_105 (l0 l1 l2 l3 : Value) (s0 : Nat) (H : HS) : rn 238 105 [l0, l1, l2, l3] [.ref s0] H = rn 238 107 [l0, l1, l2, l3] [.int 93, .ref s0] H := rn_nx rfl
theorem x238_107 (l0 l1 l2 l3 : Value) (s0 : Int32) (s1 : Nat) (H : HS) (h : recv H s1 5 = true) : rn 238 107 [l0, l1, l2, l3] [.int s0, .ref s1] H = bnd true 238 107 [l0, l1, l2, l3] [] (rcal 236 [.ref s1, .int s0] H) := rn_cal (vcal h rfl)
theorem x238_110 (l0 l2 l3 : Value) (l1 : Int32) (H : HS) : rn 238 110 [l0, .int l1, l2, l3] [] H = rn 238 111 [l0, .int l1, l2, l3] [.int l1] H := rn_nx rfl
theorem x238_111 (l1 l2 l3 : Value) (l0 : Nat) (s0 : Int32) (H : HS) : rn 238 111 [.ref l0, l1, l2, l3] [.int s0] H = rn 238 112 [.ref l0, l1, l2, l3] [.ref l0, .int s0] H := rn_nx rfl
theorem x238_112 (l0 l1 l2 l3 : Value) (s0 : Nat) (s1 : Int32) (H : HS) : rn 238 112 [l0, l1, l2, l3] [.ref s0, .int s1] H = gk 238 115 [l0, l1, l2, l3] [.int s1] H (gfd H 5 0 s0) := (rn_ev ..).trans (ev_gk rfl)
theorem x238_115 (l0 l1 l2 l3 : Value) (s0 : Nat) (s1 : Int32) (H : HS) : rn 238 115 [l0, l1, l2, l3] [.ref s0, .int s1] H = rn 238 116 [l0, l1, l2, l3] [.int 0, .ref s0, .int s1] H := rn_nx rfl
theorem x238_116 (l0 l1 l2 l3 : Value) (s0 : Int32) (s1 : Nat) (s2 : Int32) (H : HS) : rn 238 116 [l0, l1, l2, l3] [.int s0, .ref s1, .int s2] H = gk 238 117 [l0, l1, l2, l3] [.int s2] H (ald H 100 s1 s0) := (rn_ev ..).trans (ev_gk rfl)
theorem x238_117 (l0 l1 l2 l3 : Value) (s0 : Int32) (s1 : Int32) (H : HS) : rn 238 117 [l0, l1, l2, l3] [.int s0, .int s1] H = rn 238 118 [l0, l1, l2, l3] [.int 1, .int s0, .int s1] H := rn_nx rfl
theorem x238_118 (l0 l1 l2 l3 : Value) (s0 : Int32) (s1 : Int32) (s2 : Int32) (H : HS) : rn 238 118 [l0, l1, l2, l3] [.int s0, .int s1, .int s2] H = rn 238 119 [l0, l1, l2, l3] [.int (s1 - s0), .int s2] H := rn_nx rfl
theorem x238_119 (l0 l1 l2 l3 : Value) (s0 : Int32) (s1 : Int32) (H : HS) : rn 238 119 [l0, l1, l2, l3] [.int s0, .int s1] H = if s1 < s0 then rn 238 122 [l0, l1, l2, l3] [] H else rn 238 174 [l0, l1, l2, l3] [] H := (rn_ev ..).trans (ev_bin rfl)
theorem x238_122 (l1 l2 l3 : Value) (l0 : Nat) (H : HS) : rn 238 122 [.ref l0, l1, l2, l3] [] H = rn 238 123 [.ref l0, l1, l2, l3] [.ref l0] H := rn_nx rfl
theorem x238_123 (l0 l2 l3 : Value) (l1 : Int32) (s0 : Nat) (H : HS) : rn 238 123 [l0, .int l1, l2, l3] [.ref s0] H = rn 238 124 [l0, .int l1, l2, l3] [.int l1, .ref s0] H := rn_nx rfl
theorem x238_124 (l0 l1 l2 l3 : Value) (s0 : Int32) (s1 : Nat) (H : HS) (h : recv H s1 5 = true) : rn 238 124 [l0, l1, l2, l3] [.int s0, .ref s1] H = bnd true 238 124 [l0, l1, l2, l3] [] (rcal 160 [.ref s1, .int s0] H) := rn_cal (vcal h rfl)
theorem x238_127 (l0 l1 l2 l3 : Value) (s0 : Int32) (H : HS) : rn 238 127 [l0, l1, l2, l3] [.int s0] H = rn 238 128 [l0, l1, (kl l2), .int s0] [] H := rn_nx rfl
theorem x238_128 (l0 l1 l2 : Value) (l3 : Int32) (H : HS) : rn 238 128 [l0, l1, l2, .int l3] [] H = rn 238 129 [l0, l1, l2, .int l3] [.int l3] H := rn_nx rfl
theorem x238_129 (l0 l1 l2 l3 : Value) (s0 : Int32) (H : HS) : rn 238 129 [l0, l1, l2, l3] [.int s0] H = rn 238 130 [l0, l1, l2, l3] [.int (-1), .int s0] H := rn_nx rfl
theorem x238_130 (l0 l1 l2 l3 : Value) (s0 : Int32) (s1 : Int32) (H : HS) : rn 238 130 [l0, l1, l2, l3] [.int s0, .int s1] H = if s1 = s0 then rn 238 133 [l0, l1, l2, l3] [] H else rn 238 142 [l0, l1, l2, l3] [] H := (rn_ev ..).trans (ev_bin rfl)
theorem x238_133 (l1 l2 l3 : Value) (l0 : Nat) (H : HS) : rn 238 133 [.ref l0, l1, l2, l3] [] H = rn 238 134 [.ref l0, l1, l2, l3] [.ref l0] H := rn_nx rfl
theorem x238_134 (l0 l1 l2 l3 : Value) (s0 : Nat) (H : HS) : rn 238 134 [l0, l1, l2, l3] [.ref s0] H = rn 238 136 [l0, l1, l2, l3] [.int 45, .ref s0] H := rn_nx rfl
theorem x238_136 (l0 l1 l2 l3 : Value) (s0 : Int32) (s1 : Nat) (H : HS) (h : recv H s1 5 = true) : rn 238 136 [l0, l1, l2, l3] [.int s0, .ref s1] H = bnd true 238 136 [l0, l1, l2, l3] [] (rcal 236 [.ref s1, .int s0] H) := rn_cal (vcal h rfl)
theorem x238_139 (l0 l1 l2 l3 : Value) (H : HS) : rn 238 139 [l0, l1, l2, l3] [] H = rn 238 174 [l0, l1, l2, l3] [] H := rn_nx rfl
theorem x238_174 (l0 l2 l3 : Value) (l1 : Int32) (H : HS) : rn 238 174 [l0, .int l1, l2, l3] [] H = rn 238 177 [(kl l0), .int (l1 + 1), l2, l3] [] H := rn_nx rfl
theorem x238_177 (l0 l1 l2 l3 : Value) (H : HS) : rn 238 177 [l0, l1, l2, l3] [] H = rn 238 12 [l0, l1, l2, l3] [] H := rn_nx rfl
theorem x238_142 (l1 l2 l3 : Value) (l0 : Nat) (H : HS) : rn 238 142 [.ref l0, l1, l2, l3] [] H = rn 238 143 [.ref l0, l1, l2, l3] [.ref l0] H := rn_nx rfl
theorem x238_143 (l1 l2 l3 : Value) (l0 : Nat) (s0 : Nat) (H : HS) : rn 238 143 [.ref l0, l1, l2, l3] [.ref s0] H = rn 238 144 [.ref l0, l1, l2, l3] [.ref l0, .ref s0] H := rn_nx rfl
theorem x238_144 (l0 l1 l2 : Value) (l3 : Int32) (s0 : Nat) (s1 : Nat) (H : HS) : rn 238 144 [l0, l1, l2, .int l3] [.ref s0, .ref s1] H = rn 238 145 [l0, l1, l2, .int l3] [.int l3, .ref s0, .ref s1] H := rn_nx rfl
theorem x238_145 (l0 l1 l2 l3 : Value) (s0 : Int32) (s1 : Nat) (s2 : Nat) (H : HS) (h : recv H s1 5 = true) : rn 238 145 [l0, l1, l2, l3] [.int s0, .ref s1, .ref s2] H = bnd true 238 145 [l0, l1, l2, l3] [.ref s2] (rcal 158 [.ref s1, .int s0] H) := rn_cal (vcal h rfl)
theorem x238_148 (l0 l1 l2 l3 : Value) (s0 : Int32) (s1 : Nat) (H : HS) : rn 238 148 [l0, l1, l2, l3] [.int s0, .ref s1] H = if 0 < s0 then rn 238 151 [l0, l1, l2, l3] [.ref s1] H else rn 238 156 [l0, l1, l2, l3] [.ref s1] H := (rn_ev ..).trans (ev_bin rfl)
theorem x238_151 (l0 l1 l2 l3 : Value) (s0 : Nat) (H : HS) : rn 238 151 [l0, l1, l2, l3] [.ref s0] H = rn 238 153 [l0, l1, l2, l3] [.int 62, .ref s0] H := rn_nx rfl
theorem x238_153 (l0 l1 l2 l3 : Value) (s0 : Int32) (s1 : Nat) (H : HS) : rn 238 153 [l0, l1, l2, l3] [.int s0, .ref s1] H = rn 238 158 [l0, l1, l2, l3] [.int s0, .ref s1] H := rn_nx rfl
theorem x238_158 (l0 l1 l2 l3 : Value) (s0 : Int32) (s1 : Nat) (H : HS) (h : recv H s1 5 = true) : rn 238 158 [l0, l1, l2, l3] [.int s0, .ref s1] H = bnd true 238 158 [l0, l1, l2, l3] [] (rcal 236 [.ref s1, .int s0] H) := rn_cal (vcal h rfl)
theorem x238_161 (l1 l2 l3 : Value) (l0 : Nat) (H : HS) : rn 238 161 [.ref l0, l1, l2, l3] [] H = rn 238 162 [.ref l0, l1, l2, l3] [.ref l0] H := rn_nx rfl
theorem x238_162 (l1 l2 l3 : Value) (l0 : Nat) (s0 : Nat) (H : HS) : rn 238 162 [.ref l0, l1, l2, l3] [.ref s0] H = rn 238 163 [.ref l0, l1, l2, l3] [.ref l0, .ref s0] H := rn_nx rfl
theorem x238_163 (l0 l1 l2 l3 : Value) (s0 : Nat) (s1 : Nat) (H : HS) : rn 238 163 [l0, l1, l2, l3] [.ref s0, .ref s1] H = gk 238 166 [l0, l1, l2, l3] [.ref s1] H (gfd H 5 0 s0) := (rn_ev ..).trans (ev_gk rfl)
theorem x238_166 (l0 l1 l2 : Value) (l3 : Int32) (s0 : Nat) (s1 : Nat) (H : HS) : rn 238 166 [l0, l1, l2, .int l3] [.ref s0, .ref s1] H = rn 238 167 [l0, l1, l2, .int l3] [.int l3, .ref s0, .ref s1] H := rn_nx rfl
theorem x238_167 (l0 l1 l2 l3 : Value) (s0 : Int32) (s1 : Nat) (s2 : Nat) (H : HS) : rn 238 167 [l0, l1, l2, l3] [.int s0, .ref s1, .ref s2] H = bnd true 238 167 [l0, l1, l2, l3] [.ref s1, .ref s2] (rcal 154 [.int s0] H) := rn_cal rfl
theorem x238_170 (l0 l1 l2 l3 : Value) (s0 : Int32) (s1 : Nat) (s2 : Nat) (H : HS) : rn 238 170 [l0, l1, l2, l3] [.int s0, .ref s1, .ref s2] H = gk 238 171 [l0, l1, l2, l3] [.ref s2] H (ald H 100 s1 s0) := (rn_ev ..).trans (ev_gk rfl)
theorem x238_171 (l0 l1 l2 l3 : Value) (s0 : Int32) (s1 : Nat) (H : HS) (h : recv H s1 5 = true) : rn 238 171 [l0, l1, l2, l3] [.int s0, .ref s1] H = bnd true 238 171 [l0, l1, l2, l3] [] (rcal 237 [.ref s1, .int s0] H) := rn_cal (vcal h rfl)
theorem x238_156 (l0 l1 l2 l3 : Value) (s0 : Nat) (H : HS) : rn 238 156 [l0, l1, l2, l3] [.ref s0] H = rn 238 158 [l0, l1, l2, l3] [.int 60, .ref s0] H := rn_nx rfl
theorem x238_180 (l1 l2 l3 : Value) (l0 : Nat) (H : HS) : rn 238 180 [.ref l0, l1, l2, l3] [] H = rn 238 181 [.ref l0, l1, l2, l3] [.ref l0] H := rn_nx rfl
theorem x238_181 (l0 l1 l2 l3 : Value) (s0 : Nat) (H : HS) : rn 238 181 [l0, l1, l2, l3] [.ref s0] H = gk 238 184 [l0, l1, l2, l3] [] H (gfd H 5 22 s0) := (rn_ev ..).trans (ev_gk rfl)
theorem x238_184 (l0 l1 l2 l3 : Value) (s0 : Int32) (H : HS) : rn 238 184 [l0, l1, l2, l3] [.int s0] H = some (.inl (some (.int s0)), H) := rn_end rfl
theorem c238 (a0 : Nat) (H : HS) : rcal 238 [.ref a0] H = rn 238 0 [.ref a0, un, un, un] [] H := rfl
theorem x239_0 (l1 l2 : Value) (l0 : Nat) (H : HS) : rn 239 0 [.ref l0, l1, l2] [] H = rn 239 1 [.ref l0, l1, l2] [.ref l0] H := rn_nx rfl
theorem x239_1 (l0 l1 l2 : Value) (s0 : Nat) (H : HS) : rn 239 1 [l0, l1, l2] [.ref s0] H = rn 239 2 [l0, l1, l2] [.int 0, .ref s0] H := rn_nx rfl
theorem x239_2 (l0 l1 l2 : Value) (s0 : Int32) (s1 : Nat) (H : HS) : rn 239 2 [l0, l1, l2] [.int s0, .ref s1] H = pk 239 5 [l0, l1, l2] [] (pfd H true 5 9 s1 (.int s0)) := (rn_ev ..).trans (ev_pk rfl)
theorem x239_5 (l1 l2 : Value) (l0 : Nat) (H : HS) : rn 239 5 [.ref l0, l1, l2] [] H = rn 239 6 [.ref l0, l1, l2] [.ref l0] H := rn_nx rfl
theorem x239_6 (l0 l2 : Value) (l1 : Int32) (s0 : Nat) (H : HS) : rn 239 6 [l0, .int l1, l2] [.ref s0] H = rn 239 7 [l0, .int l1, l2] [.int l1, .ref s0] H := rn_nx rfl
theorem x239_7 (l0 l1 l2 : Value) (s0 : Int32) (s1 : Nat) (H : HS) (h : recv H s1 5 = true) : rn 239 7 [l0, l1, l2] [.int s0, .ref s1] H = bnd true 239 7 [l0, l1, l2] [] (rcal 157 [.ref s1, .int s0] H) := rn_cal (vcal h rfl)
theorem x239_10 (l0 l1 l2 : Value) (s0 : Int32) (H : HS) : rn 239 10 [l0, l1, l2] [.int s0] H = rn 239 11 [l0, l1, l2] [.int (-1), .int s0] H := rn_nx rfl
theorem x239_11 (l0 l1 l2 : Value) (s0 : Int32) (s1 : Int32) (H : HS) : rn 239 11 [l0, l1, l2] [.int s0, .int s1] H = if s1 = s0 then rn 239 14 [l0, l1, l2] [] H else rn 239 20 [l0, l1, l2] [] H := (rn_ev ..).trans (ev_bin rfl)
theorem x239_14 (l1 l2 : Value) (l0 : Nat) (H : HS) : rn 239 14 [.ref l0, l1, l2] [] H = rn 239 15 [.ref l0, l1, l2] [.ref l0] H := rn_nx rfl
theorem x239_15 (l0 l1 l2 : Value) (s0 : Nat) (H : HS) : rn 239 15 [l0, l1, l2] [.ref s0] H = rn 239 16 [l0, l1, l2] [.int 1, .ref s0] H := rn_nx rfl
theorem x239_16 (l0 l1 l2 : Value) (s0 : Int32) (s1 : Nat) (H : HS) (h : recv H s1 5 = true) : rn 239 16 [l0, l1, l2] [.int s0, .ref s1] H = bnd true 239 16 [l0, l1, l2] [] (rcal 150 [.ref s1, .int s0] H) := rn_cal (vcal h rfl)
theorem x239_19 (l0 l1 l2 : Value) (s0 : Int32) (H : HS) : rn 239 19 [l0, l1, l2] [.int s0] H = some (.inl (some (.int s0)), H) := rn_end rfl
theorem x239_20 (l1 l2 : Value) (l0 : Nat) (H : HS) : rn 239 20 [.ref l0, l1, l2] [] H = rn 239 21 [.ref l0, l1, l2] [.ref l0] H := rn_nx rfl
theorem x239_21 (l0 l2 : Value) (l1 : Int32) (s0 : Nat) (H : HS) : rn 239 21 [l0, .int l1, l2] [.ref s0] H = rn 239 22 [l0, .int l1, l2] [.int l1, .ref s0] H := rn_nx rfl
theorem x239_22 (l0 l1 l2 : Value) (s0 : Int32) (s1 : Nat) (H : HS) (h : recv H s1 5 = true) : rn 239 22 [l0, l1, l2] [.int s0, .ref s1] H = bnd true 239 22 [l0, l1, l2] [] (rcal 157 [.ref s1, .int s0] H) := rn_cal (vcal h rfl)
theorem x239_25 (l0 l1 l2 : Value) (s0 : Int32) (H : HS) : rn 239 25 [l0, l1, l2] [.int s0] H = bnd true 239 25 [l0, l1, l2] [] (rcal 154 [.int s0] H) := rn_cal rfl
theorem x239_28 (l0 l1 l2 : Value) (s0 : Int32) (H : HS) : rn 239 28 [l0, l1, l2] [.int s0] H = rn 239 29 [l0, (kl l1), .int s0] [] H := rn_nx rfl
theorem x239_29 (l1 l2 : Value) (l0 : Nat) (H : HS) : rn 239 29 [.ref l0, l1, l2] [] H = rn 239 30 [.ref l0, l1, l2] [.ref l0] H := rn_nx rfl
theorem x239_30 (l0 l1 l2 : Value) (s0 : Nat) (H : HS) : rn 239 30 [l0, l1, l2] [.ref s0] H = rn 239 31 [l0, l1, l2] [.int 0, .ref s0] H := rn_nx rfl
theorem x239_31 (l0 l1 l2 : Value) (s0 : Int32) (s1 : Nat) (H : HS) : rn 239 31 [l0, l1, l2] [.int s0, .ref s1] H = pk 239 34 [l0, l1, l2] [] (pfd H true 5 22 s1 (.int s0)) := (rn_ev ..).trans (ev_pk rfl)
theorem x239_34 (l1 l2 : Value) (l0 : Nat) (H : HS) : rn 239 34 [.ref l0, l1, l2] [] H = rn 239 35 [.ref l0, l1, l2] [.ref l0] H := rn_nx rfl
theorem x239_35 (l0 l2 : Value) (l1 : Int32) (s0 : Nat) (H : HS) : rn 239 35 [l0, .int l1, l2] [.ref s0] H = rn 239 36 [l0, .int l1, l2] [.int l1, .ref s0] H := rn_nx rfl
theorem x239_36 (l0 l1 l2 : Value) (s0 : Int32) (s1 : Nat) (H : HS) (h : recv H s1 5 = true) : rn 239 36 [l0, l1, l2] [.int s0, .ref s1] H = bnd true 239 36 [l0, l1, l2] [] (rcal 237 [.ref s1, .int s0] H) := rn_cal (vcal h rfl)
theorem x239_39 (l1 l2 : Value) (l0 : Nat) (H : HS) : rn 239 39 [.ref l0, l1, l2] [] H = rn 239 40 [.ref l0, l1, l2] [.ref l0] H := rn_nx rfl
theorem x239_40 (l0 l1 l2 : Value) (s0 : Nat) (H : HS) : rn 239 40 [l0, l1, l2] [.ref s0] H = rn 239 42 [l0, l1, l2] [.int 58, .ref s0] H := rn_nx rfl
theorem x239_42 (l0 l1 l2 : Value) (s0 : Int32) (s1 : Nat) (H : HS) (h : recv H s1 5 = true) : rn 239 42 [l0, l1, l2] [.int s0, .ref s1] H = bnd true 239 42 [l0, l1, l2] [] (rcal 236 [.ref s1, .int s0] H) := rn_cal (vcal h rfl)
theorem x239_45 (l1 l2 : Value) (l0 : Nat) (H : HS) : rn 239 45 [.ref l0, l1, l2] [] H = rn 239 46 [.ref l0, l1, l2] [.ref l0] H := rn_nx rfl
theorem x239_46 (l1 l2 : Value) (l0 : Nat) (s0 : Nat) (H : HS) : rn 239 46 [.ref l0, l1, l2] [.ref s0] H = rn 239 47 [.ref l0, l1, l2] [.ref l0, .ref s0] H := rn_nx rfl
theorem x239_47 (l0 l1 l2 : Value) (s0 : Nat) (s1 : Nat) (H : HS) : rn 239 47 [l0, l1, l2] [.ref s0, .ref s1] H = gk 239 50 [l0, l1, l2] [.ref s1] H (gfd H 5 0 s0) := (rn_ev ..).trans (ev_gk rfl)
theorem x239_50 (l0 l1 : Value) (l2 : Int32) (s0 : Nat) (s1 : Nat) (H : HS) : rn 239 50 [l0, l1, .int l2] [.ref s0, .ref s1] H = rn 239 51 [l0, l1, .int l2] [.int l2, .ref s0, .ref s1] H := rn_nx rfl
theorem x239_51 (l0 l1 l2 : Value) (s0 : Int32) (s1 : Nat) (s2 : Nat) (H : HS) : rn 239 51 [l0, l1, l2] [.int s0, .ref s1, .ref s2] H = rn 239 52 [l0, l1, l2] [.int 1, .int s0, .ref s1, .ref s2] H := rn_nx rfl
theorem x239_52 (l0 l1 l2 : Value) (s0 : Int32) (s1 : Int32) (s2 : Nat) (s3 : Nat) (H : HS) : rn 239 52 [l0, l1, l2] [.int s0, .int s1, .ref s2, .ref s3] H = rn 239 53 [l0, l1, l2] [.int (s1 + s0), .ref s2, .ref s3] H := rn_nx rfl
theorem x239_53 (l0 l1 l2 : Value) (s0 : Int32) (s1 : Nat) (s2 : Nat) (H : HS) : rn 239 53 [l0, l1, l2] [.int s0, .ref s1, .ref s2] H = gk 239 54 [l0, l1, l2] [.ref s2] H (ald H 100 s1 s0) := (rn_ev ..).trans (ev_gk rfl)
theorem x239_54 (l0 l1 l2 : Value) (s0 : Int32) (s1 : Nat) (H : HS) (h : recv H s1 5 = true) : rn 239 54 [l0, l1, l2] [.int s0, .ref s1] H = bnd true 239 54 [l0, l1, l2] [] (rcal 237 [.ref s1, .int s0] H) := rn_cal (vcal h rfl)
theorem x239_57 (l1 l2 : Value) (l0 : Nat) (H : HS) : rn 239 57 [.ref l0, l1, l2] [] H = rn 239 58 [.ref l0, l1, l2] [.ref l0] H := rn_nx rfl
theorem x239_58 (l0 l1 l2 : Value) (s0 : Nat) (H : HS) : rn 239 58 [l0, l1, l2] [.ref s0] H = rn 239 60 [l0, l1, l2] [.int 62, .ref s0] H := rn_nx rfl
theorem x239_60 (l0 l1 l2 : Value) (s0 : Int32) (s1 : Nat) (H : HS) (h : recv H s1 5 = true) : rn 239 60 [l0, l1, l2] [.int s0, .ref s1] H = bnd true 239 60 [l0, l1, l2] [] (rcal 236 [.ref s1, .int s0] H) := rn_cal (vcal h rfl)
theorem x239_63 (l1 l2 : Value) (l0 : Nat) (H : HS) : rn 239 63 [.ref l0, l1, l2] [] H = rn 239 64 [.ref l0, l1, l2] [.ref l0] H := rn_nx rfl
theorem x239_64 (l1 l2 : Value) (l0 : Nat) (s0 : Nat) (H : HS) : rn 239 64 [.ref l0, l1, l2] [.ref s0] H = rn 239 65 [.ref l0, l1, l2] [.ref l0, .ref s0] H := rn_nx rfl
theorem x239_65 (l0 l1 l2 : Value) (s0 : Nat) (s1 : Nat) (H : HS) : rn 239 65 [l0, l1, l2] [.ref s0, .ref s1] H = gk 239 68 [l0, l1, l2] [.ref s1] H (gfd H 5 0 s0) := (rn_ev ..).trans (ev_gk rfl)
theorem x239_68 (l0 l1 : Value) (l2 : Int32) (s0 : Nat) (s1 : Nat) (H : HS) : rn 239 68 [l0, l1, .int l2] [.ref s0, .ref s1] H = rn 239 69 [l0, l1, .int l2] [.int l2, .ref s0, .ref s1] H := rn_nx rfl
theorem x239_69 (l0 l1 l2 : Value) (s0 : Int32) (s1 : Nat) (s2 : Nat) (H : HS) : rn 239 69 [l0, l1, l2] [.int s0, .ref s1, .ref s2] H = rn 239 70 [l0, l1, l2] [.int 2, .int s0, .ref s1, .ref s2] H := rn_nx rfl
theorem x239_70 (l0 l1 l2 : Value) (s0 : Int32) (s1 : Int32) (s2 : Nat) (s3 : Nat) (H : HS) : rn 239 70 [l0, l1, l2] [.int s0, .int s1, .ref s2, .ref s3] H = rn 239 71 [l0, l1, l2] [.int (s1 + s0), .ref s2, .ref s3] H := rn_nx rfl
theorem x239_71 (l0 l1 l2 : Value) (s0 : Int32) (s1 : Nat) (s2 : Nat) (H : HS) : rn 239 71 [l0, l1, l2] [.int s0, .ref s1, .ref s2] H = gk 239 72 [l0, l1, l2] [.ref s2] H (ald H 100 s1 s0) := (rn_ev ..).trans (ev_gk rfl)
theorem x239_72 (l0 l1 l2 : Value) (s0 : Int32) (s1 : Nat) (H : HS) (h : recv H s1 5 = true) : rn 239 72 [l0, l1, l2] [.int s0, .ref s1] H = bnd true 239 72 [l0, l1, l2] [] (rcal 237 [.ref s1, .int s0] H) := rn_cal (vcal h rfl)
theorem x239_75 (l1 l2 : Value) (l0 : Nat) (H : HS) : rn 239 75 [.ref l0, l1, l2] [] H = rn 239 76 [.ref l0, l1, l2] [.ref l0] H := rn_nx rfl
theorem x239_76 (l0 l1 l2 : Value) (s0 : Nat) (H : HS) : rn 239 76 [l0, l1, l2] [.ref s0] H = rn 239 78 [l0, l1, l2] [.int 64, .ref s0] H := rn_nx rfl
theorem x239_78 (l0 l1 l2 : Value) (s0 : Int32) (s1 : Nat) (H : HS) (h : recv H s1 5 = true) : rn 239 78 [l0, l1, l2] [.int s0, .ref s1] H = bnd true 239 78 [l0, l1, l2] [] (rcal 236 [.ref s1, .int s0] H) := rn_cal (vcal h rfl)
theorem x239_81 (l1 l2 : Value) (l0 : Nat) (H : HS) : rn 239 81 [.ref l0, l1, l2] [] H = rn 239 82 [.ref l0, l1, l2] [.ref l0] H := rn_nx rfl
theorem x239_82 (l1 l2 : Value) (l0 : Nat) (s0 : Nat) (H : HS) : rn 239 82 [.ref l0, l1, l2] [.ref s0] H = rn 239 83 [.ref l0, l1, l2] [.ref l0, .ref s0] H := rn_nx rfl
theorem x239_83 (l0 l1 l2 : Value) (s0 : Nat) (s1 : Nat) (H : HS) : rn 239 83 [l0, l1, l2] [.ref s0, .ref s1] H = gk 239 86 [l0, l1, l2] [.ref s1] H (gfd H 5 0 s0) := (rn_ev ..).trans (ev_gk rfl)
theorem x239_86 (l0 l1 : Value) (l2 : Int32) (s0 : Nat) (s1 : Nat) (H : HS) : rn 239 86 [l0, l1, .int l2] [.ref s0, .ref s1] H = rn 239 87 [l0, l1, .int l2] [.int l2, .ref s0, .ref s1] H := rn_nx rfl
theorem x239_87 (l0 l1 l2 : Value) (s0 : Int32) (s1 : Nat) (s2 : Nat) (H : HS) : rn 239 87 [l0, l1, l2] [.int s0, .ref s1, .ref s2] H = rn 239 88 [l0, l1, l2] [.int 3, .int s0, .ref s1, .ref s2] H := rn_nx rfl
theorem x239_88 (l0 l1 l2 : Value) (s0 : Int32) (s1 : Int32) (s2 : Nat) (s3 : Nat) (H : HS) : rn 239 88 [l0, l1, l2] [.int s0, .int s1, .ref s2, .ref s3] H = rn 239 89 [l0, l1, l2] [.int (s1 + s0), .ref s2, .ref s3] H := rn_nx rfl
theorem x239_89 (l0 l1 l2 : Value) (s0 : Int32) (s1 : Nat) (s2 : Nat) (H : HS) : rn 239 89 [l0, l1, l2] [.int s0, .ref s1, .ref s2] H = gk 239 90 [l0, l1, l2] [.ref s2] H (ald H 100 s1 s0) := (rn_ev ..).trans (ev_gk rfl)
theorem x239_90 (l0 l1 l2 : Value) (s0 : Int32) (s1 : Nat) (H : HS) (h : recv H s1 5 = true) : rn 239 90 [l0, l1, l2] [.int s0, .ref s1] H = bnd true 239 90 [l0, l1, l2] [] (rcal 237 [.ref s1, .int s0] H) := rn_cal (vcal h rfl)
theorem x239_93 (l1 l2 : Value) (l0 : Nat) (H : HS) : rn 239 93 [.ref l0, l1, l2] [] H = rn 239 94 [.ref l0, l1, l2] [.ref l0] H := rn_nx rfl
theorem x239_94 (l0 l1 l2 : Value) (s0 : Nat) (H : HS) : rn 239 94 [l0, l1, l2] [.ref s0] H = gk 239 97 [l0, l1, l2] [] H (gfd H 5 0 s0) := (rn_ev ..).trans (ev_gk rfl)
theorem x239_97 (l0 l1 : Value) (l2 : Int32) (s0 : Nat) (H : HS) : rn 239 97 [l0, l1, .int l2] [.ref s0] H = rn 239 98 [l0, l1, .int l2] [.int l2, .ref s0] H := rn_nx rfl
theorem x239_98 (l0 l1 l2 : Value) (s0 : Int32) (s1 : Nat) (H : HS) : rn 239 98 [l0, l1, l2] [.int s0, .ref s1] H = rn 239 100 [l0, l1, l2] [.int 7, .int s0, .ref s1] H := rn_nx rfl
theorem x239_100 (l0 l1 l2 : Value) (s0 : Int32) (s1 : Int32) (s2 : Nat) (H : HS) : rn 239 100 [l0, l1, l2] [.int s0, .int s1, .ref s2] H = rn 239 101 [l0, l1, l2] [.int (s1 + s0), .ref s2] H := rn_nx rfl
theorem x239_101 (l0 l1 l2 : Value) (s0 : Int32) (s1 : Nat) (H : HS) : rn 239 101 [l0, l1, l2] [.int s0, .ref s1] H = gk 239 102 [l0, l1, l2] [] H (ald H 100 s1 s0) := (rn_ev ..).trans (ev_gk rfl)
theorem x239_102 (l0 l1 l2 : Value) (s0 : Int32) (H : HS) : rn 239 102 [l0, l1, l2] [.int s0] H = rn 239 103 [l0, l1, l2] [.int 1, .int s0] H := rn_nx rfl
theorem x239_103 (l0 l1 l2 : Value) (s0 : Int32) (s1 : Int32) (H : HS) : rn 239 103 [l0, l1, l2] [.int s0, .int s1] H = if s1 = s0 then rn 239 106 [l0, l1, l2] [] H else rn 239 112 [l0, l1, l2] [] H := (rn_ev ..).trans (ev_bin rfl)
theorem x239_106 (l1 l2 : Value) (l0 : Nat) (H : HS) : rn 239 106 [.ref l0, l1, l2] [] H = rn 239 107 [.ref l0, l1, l2] [.ref l0] H := rn_nx rfl
theorem x239_107 (l0 l1 l2 : Value) (s0 : Nat) (H : HS) : rn 239 107 [l0, l1, l2] [.ref s0] H = rn 239 109 [l0, l1, l2] [.int 33, .ref s0] H := rn_nx rfl
theorem x239_109 (l0 l1 l2 : Value) (s0 : Int32) (s1 : Nat) (H : HS) (h : recv H s1 5 = true) : rn 239 109 [l0, l1, l2] [.int s0, .ref s1] H = bnd true 239 109 [l0, l1, l2] [] (rcal 236 [.ref s1, .int s0] H) := rn_cal (vcal h rfl)
theorem x239_112 (l1 l2 : Value) (l0 : Nat) (H : HS) : rn 239 112 [.ref l0, l1, l2] [] H = rn 239 113 [.ref l0, l1, l2] [.ref l0] H := rn_nx rfl
theorem x239_113 (l0 l1 l2 : Value) (s0 : Nat) (H : HS) : rn 239 113 [l0, l1, l2] [.ref s0] H = gk 239 116 [l0, l1, l2] [] H (gfd H 5 0 s0) := (rn_ev ..).trans (ev_gk rfl)
theorem x239_116 (l0 l1 : Value) (l2 : Int32) (s0 : Nat) (H : HS) : rn 239 116 [l0, l1, .int l2] [.ref s0] H = rn 239 117 [l0, l1, .int l2] [.int l2, .ref s0] H := rn_nx rfl
theorem x239_117 (l0 l1 l2 : Value) (s0 : Int32) (s1 : Nat) (H : HS) : rn 239 117 [l0, l1, l2] [.int s0, .ref s1] H = rn 239 119 [l0, l1, l2] [.int 8, .int s0, .ref s1] H := rn_nx rfl
theorem x239_119 (l0 l1 l2 : Value) (s0 : Int32) (s1 : Int32) (s2 : Nat) (H : HS) : rn 239 119 [l0, l1, l2] [.int s0, .int s1, .ref s2] H = rn 239 120 [l0, l1, l2] [.int (s1 + s0), .ref s2] H := rn_nx rfl
theorem x239_120 (l0 l1 l2 : Value) (s0 : Int32) (s1 : Nat) (H : HS) : rn 239 120 [l0, l1, l2] [.int s0, .ref s1] H = gk 239 121 [l0, l1, l2] [] H (ald H 100 s1 s0) := (rn_ev ..).trans (ev_gk rfl)
theorem x239_121 (l0 l1 l2 : Value) (s0 : Int32) (H : HS) : rn 239 121 [l0, l1, l2] [.int s0] H = if 0 < s0 then rn 239 124 [l0, l1, l2] [] H else rn 239 143 [l0, l1, l2] [] H := (rn_ev ..).trans (ev_bin rfl)
theorem x239_124 (l1 l2 : Value) (l0 : Nat) (H : HS) : rn 239 124 [.ref l0, l1, l2] [] H = rn 239 125 [.ref l0, l1, l2] [.ref l0] H := rn_nx rfl
theorem x239_125 (l0 l1 l2 : Value) (s0 : Nat) (H : HS) : rn 239 125 [l0, l1, l2] [.ref s0] H = rn 239 127 [l0, l1, l2] [.int 43, .ref s0] H := rn_nx rfl
theorem x239_127 (l0 l1 l2 : Value) (s0 : Int32) (s1 : Nat) (H : HS) (h : recv H s1 5 = true) : rn 239 127 [l0, l1, l2] [.int s0, .ref s1] H = bnd true 239 127 [l0, l1, l2] [] (rcal 236 [.ref s1, .int s0] H) := rn_cal (vcal h rfl)
theorem x239_130 (l1 l2 : Value) (l0 : Nat) (H : HS) : rn 239 130 [.ref l0, l1, l2] [] H = rn 239 131 [.ref l0, l1, l2] [.ref l0] H := rn_nx rfl
theorem x239_131 (l1 l2 : Value) (l0 : Nat) (s0 : Nat) (H : HS) : rn 239 131 [.ref l0, l1, l2] [.ref s0] H = rn 239 132 [.ref l0, l1, l2] [.ref l0, .ref s0] H := rn_nx rfl
theorem x239_132 (l0 l1 l2 : Value) (s0 : Nat) (s1 : Nat) (H : HS) : rn 239 132 [l0, l1, l2] [.ref s0, .ref s1] H = gk 239 135 [l0, l1, l2] [.ref s1] H (gfd H 5 0 s0) := (rn_ev ..).trans (ev_gk rfl)
theorem x239_135 (l0 l1 : Value) (l2 : Int32) (s0 : Nat) (s1 : Nat) (H : HS) : rn 239 135 [l0, l1, .int l2] [.ref s0, .ref s1] H = rn 239 136 [l0, l1, .int l2] [.int l2, .ref s0, .ref s1] H := rn_nx rfl
theorem x239_136 (l0 l1 l2 : Value) (s0 : Int32) (s1 : Nat) (s2 : Nat) (H : HS) : rn 239 136 [l0, l1, l2] [.int s0, .ref s1, .ref s2] H = rn 239 138 [l0, l1, l2] [.int 8, .int s0, .ref s1, .ref s2] H := rn_nx rfl
theorem x239_138 (l0 l1 l2 : Value) (s0 : Int32) (s1 : Int32) (s2 : Nat) (s3 : Nat) (H : HS) : rn 239 138 [l0, l1, l2] [.int s0, .int s1, .ref s2, .ref s3] H = rn 239 139 [l0, l1, l2] [.int (s1 + s0), .ref s2, .ref s3] H := rn_nx rfl
theorem x239_139 (l0 l1 l2 : Value) (s0 : Int32) (s1 : Nat) (s2 : Nat) (H : HS) : rn 239 139 [l0, l1, l2] [.int s0, .ref s1, .ref s2] H = gk 239 140 [l0, l1, l2] [.ref s2] H (ald H 100 s1 s0) := (rn_ev ..).trans (ev_gk rfl)
theorem x239_140 (l0 l1 l2 : Value) (s0 : Int32) (s1 : Nat) (H : HS) (h : recv H s1 5 = true) : rn 239 140 [l0, l1, l2] [.int s0, .ref s1] H = bnd true 239 140 [l0, l1, l2] [] (rcal 237 [.ref s1, .int s0] H) := rn_cal (vcal h rfl)
theorem x239_143 (l1 l2 : Value) (l0 : Nat) (H : HS) : rn 239 143 [.ref l0, l1, l2] [] H = rn 239 144 [.ref l0, l1, l2] [.ref l0] H := rn_nx rfl
theorem x239_144 (l0 l1 l2 : Value) (s0 : Nat) (H : HS) : rn 239 144 [l0, l1, l2] [.ref s0] H = gk 239 147 [l0, l1, l2] [] H (gfd H 5 22 s0) := (rn_ev ..).trans (ev_gk rfl)
theorem x239_147 (l0 l1 l2 : Value) (s0 : Int32) (H : HS) : rn 239 147 [l0, l1, l2] [.int s0] H = some (.inl (some (.int s0)), H) := rn_end rfl
theorem c239 (a0 : Nat) (a1 : Int32) (H : HS) : rcal 239 [.ref a0, .int a1] H = rn 239 0 [.ref a0, .int a1, un] [] H := rfl
theorem x240_0 (l1 : Value) (l0 : Nat) (H : HS) : rn 240 0 [.ref l0, l1] [] H = rn 240 1 [.ref l0, l1] [.ref l0] H := rn_nx rfl
theorem x240_1 (l0 l1 : Value) (s0 : Nat) (H : HS) : rn 240 1 [l0, l1] [.ref s0] H = rn 240 2 [l0, l1] [.int 0, .ref s0] H := rn_nx rfl
theorem x240_2 (l0 l1 : Value) (s0 : Int32) (s1 : Nat) (H : HS) : rn 240 2 [l0, l1] [.int s0, .ref s1] H = pk 240 5 [l0, l1] [] (pfd H true 5 9 s1 (.int s0)) := (rn_ev ..).trans (ev_pk rfl)
theorem x240_5 (l0 : Value) (l1 : Int32) (H : HS) : rn 240 5 [l0, .int l1] [] H = rn 240 6 [l0, .int l1] [.int l1] H := rn_nx rfl
theorem x240_6 (l0 l1 : Value) (s0 : Int32) (H : HS) : rn 240 6 [l0, l1] [.int s0] H = rn 240 7 [l0, l1] [.long s0.toInt64] H := rn_nx rfl
theorem x240_7 (l0 l1 : Value) (s0 : Int64) (H : HS) : rn 240 7 [l0, l1] [.long s0] H = rn 240 8 [l0, l1] [.long 0, .long s0] H := rn_nx rfl
theorem x240_8 (l1 : Value) (l0 : Nat) (s0 : Int64) (s1 : Int64) (H : HS) : rn 240 8 [.ref l0, l1] [.long s0, .long s1] H = rn 240 9 [.ref l0, l1] [.ref l0, .long s0, .long s1] H := rn_nx rfl
theorem x240_9 (l0 l1 : Value) (s0 : Nat) (s1 : Int64) (s2 : Int64) (H : HS) : rn 240 9 [l0, l1] [.ref s0, .long s1, .long s2] H = gk 240 12 [l0, l1] [.long s1, .long s2] H (gfd H 5 22 s0) := (rn_ev ..).trans (ev_gk rfl)
theorem x240_12 (l0 l1 : Value) (s0 : Int32) (s1 : Int64) (s2 : Int64) (H : HS) : rn 240 12 [l0, l1] [.int s0, .long s1, .long s2] H = rn 240 13 [l0, l1] [.int 1, .int s0, .long s1, .long s2] H := rn_nx rfl
theorem x240_13 (l0 l1 : Value) (s0 : Int32) (s1 : Int32) (s2 : Int64) (s3 : Int64) (H : HS) : rn 240 13 [l0, l1] [.int s0, .int s1, .long s2, .long s3] H = rn 240 14 [l0, l1] [.int (s1 - s0), .long s2, .long s3] H := rn_nx rfl
theorem x240_14 (l0 l1 : Value) (s0 : Int32) (s1 : Int64) (s2 : Int64) (H : HS) : rn 240 14 [l0, l1] [.int s0, .long s1, .long s2] H = rn 240 15 [l0, l1] [.long s0.toInt64, .long s1, .long s2] H := rn_nx rfl
theorem x240_15 (l0 l1 : Value) (s0 : Int64) (s1 : Int64) (s2 : Int64) (H : HS) : rn 240 15 [l0, l1] [.long s0, .long s1, .long s2] H = bnd true 240 15 [l0, l1] [] (rcal 151 [.long s2, .long s1, .long s0] H) := rn_cal rfl
theorem x240_18 (l0 l1 : Value) (s0 : Int32) (H : HS) : rn 240 18 [l0, l1] [.int s0] H = if s0 = 0 then rn 240 31 [l0, l1] [] H else rn 240 21 [l0, l1] [] H := (rn_ev ..).trans (ev_bif rfl)
theorem x240_21 (l1 : Value) (l0 : Nat) (H : HS) : rn 240 21 [.ref l0, l1] [] H = rn 240 22 [.ref l0, l1] [.ref l0] H := rn_nx rfl
theorem x240_22 (l0 l1 : Value) (s0 : Nat) (H : HS) : rn 240 22 [l0, l1] [.ref s0] H = gk 240 25 [l0, l1] [] H (gfd H 5 21 s0) := (rn_ev ..).trans (ev_gk rfl)
theorem x240_25 (l0 : Value) (l1 : Int32) (s0 : Nat) (H : HS) : rn 240 25 [l0, .int l1] [.ref s0] H = rn 240 26 [l0, .int l1] [.int l1, .ref s0] H := rn_nx rfl
theorem x240_26 (l0 l1 : Value) (s0 : Int32) (s1 : Nat) (H : HS) : rn 240 26 [l0, l1] [.int s0, .ref s1] H = gk 240 27 [l0, l1] [] H (ald H 100 s1 s0) := (rn_ev ..).trans (ev_gk rfl)
theorem x240_27 (l0 l1 : Value) (s0 : Int32) (H : HS) : rn 240 27 [l0, l1] [.int s0] H = rn 240 28 [l0, l1] [.int (s0.toUInt32 % 65536).toInt32] H := rn_nx rfl
theorem x240_28 (l0 l1 : Value) (s0 : Int32) (H : HS) : rn 240 28 [l0, l1] [.int s0] H = rn 240 37 [l0, l1] [.int s0] H := rn_nx rfl
theorem x240_37 (l0 l1 : Value) (s0 : Int32) (H : HS) : rn 240 37 [l0, l1] [.int s0] H = if fitp 3 (.int s0) = true then some (.inl (some (.int s0)), H) else none := (rn_ev ..).trans (ev_ret rfl)
theorem x240_31 (l1 : Value) (l0 : Nat) (H : HS) : rn 240 31 [.ref l0, l1] [] H = rn 240 32 [.ref l0, l1] [.ref l0] H := rn_nx rfl
theorem x240_32 (l0 l1 : Value) (s0 : Nat) (H : HS) : rn 240 32 [l0, l1] [.ref s0] H = rn 240 33 [l0, l1] [.int 1, .ref s0] H := rn_nx rfl
theorem x240_33 (l0 l1 : Value) (s0 : Int32) (s1 : Nat) (H : HS) (h : recv H s1 5 = true) : rn 240 33 [l0, l1] [.int s0, .ref s1] H = bnd true 240 33 [l0, l1] [] (rcal 150 [.ref s1, .int s0] H) := rn_cal (vcal h rfl)
theorem x240_36 (l0 l1 : Value) (s0 : Int32) (H : HS) : rn 240 36 [l0, l1] [.int s0] H = rn 240 37 [l0, l1] [.int (s0.toUInt32 % 65536).toInt32] H := rn_nx rfl
theorem c240 (a0 : Nat) (a1 : Int32) (H : HS) : rcal 240 [.ref a0, .int a1] H = rn 240 0 [.ref a0, .int a1] [] H := rfl
theorem x241_0 (l1 : Value) (l0 : Nat) (H : HS) : rn 241 0 [.ref l0, l1] [] H = rn 241 1 [.ref l0, l1] [.ref l0] H := rn_nx rfl
theorem x241_1 (l0 l1 : Value) (s0 : Nat) (H : HS) : rn 241 1 [l0, l1] [.ref s0] H = rn 241 2 [l0, l1] [.int 0, .ref s0] H := rn_nx rfl
theorem x241_2 (l0 l1 : Value) (s0 : Int32) (s1 : Nat) (H : HS) : rn 241 2 [l0, l1] [.int s0, .ref s1] H = pk 241 5 [l0, l1] [] (pfd H true 5 9 s1 (.int s0)) := (rn_ev ..).trans (ev_pk rfl)
theorem x241_5 (l1 : Value) (l0 : Nat) (H : HS) : rn 241 5 [.ref l0, l1] [] H = rn 241 6 [.ref l0, l1] [.ref l0] H := rn_nx rfl
theorem x241_6 (l0 l1 : Value) (s0 : Nat) (H : HS) : rn 241 6 [l0, l1] [.ref s0] H = gk 241 9 [l0, l1] [] H (gfd H 5 6 s0) := (rn_ev ..).trans (ev_gk rfl)
theorem x241_9 (l0 l1 : Value) (s0 : Int32) (H : HS) : rn 241 9 [l0, l1] [.int s0] H = if s0 = 0 then rn 241 12 [l0, l1] [] H else rn 241 18 [l0, l1] [] H := (rn_ev ..).trans (ev_bin rfl)
theorem x241_12 (l1 : Value) (l0 : Nat) (H : HS) : rn 241 12 [.ref l0, l1] [] H = rn 241 13 [.ref l0, l1] [.ref l0] H := rn_nx rfl
theorem x241_13 (l0 l1 : Value) (s0 : Nat) (H : HS) : rn 241 13 [l0, l1] [.ref s0] H = rn 241 14 [l0, l1] [.int 1, .ref s0] H := rn_nx rfl
theorem x241_14 (l0 l1 : Value) (s0 : Int32) (s1 : Nat) (H : HS) (h : recv H s1 5 = true) : rn 241 14 [l0, l1] [.int s0, .ref s1] H = bnd true 241 14 [l0, l1] [] (rcal 150 [.ref s1, .int s0] H) := rn_cal (vcal h rfl)
theorem x241_17 (l0 l1 : Value) (s0 : Int32) (H : HS) : rn 241 17 [l0, l1] [.int s0] H = some (.inl (some (.int s0)), H) := rn_end rfl
theorem x241_18 (l1 : Value) (l0 : Nat) (H : HS) : rn 241 18 [.ref l0, l1] [] H = rn 241 19 [.ref l0, l1] [.ref l0] H := rn_nx rfl
theorem x241_19 (l0 l1 : Value) (s0 : Nat) (H : HS) : rn 241 19 [l0, l1] [.ref s0] H = rn 241 20 [l0, l1] [.ref s0, .ref s0] H := rn_nx rfl
theorem x241_20 (l0 l1 : Value) (s0 : Nat) (s1 : Nat) (H : HS) : rn 241 20 [l0, l1] [.ref s0, .ref s1] H = gk 241 23 [l0, l1] [.ref s1] H (gfd H 5 6 s0) := (rn_ev ..).trans (ev_gk rfl)
theorem x241_23 (l0 l1 : Value) (s0 : Int32) (s1 : Nat) (H : HS) : rn 241 23 [l0, l1] [.int s0, .ref s1] H = rn 241 24 [l0, l1] [.int 1, .int s0, .ref s1] H := rn_nx rfl
theorem x241_24 (l0 l1 : Value) (s0 : Int32) (s1 : Int32) (s2 : Nat) (H : HS) : rn 241 24 [l0, l1] [.int s0, .int s1, .ref s2] H = rn 241 25 [l0, l1] [.int (s1 - s0), .ref s2] H := rn_nx rfl
theorem x241_25 (l0 l1 : Value) (s0 : Int32) (s1 : Nat) (H : HS) : rn 241 25 [l0, l1] [.int s0, .ref s1] H = pk 241 28 [l0, l1] [] (pfd H true 5 6 s1 (.int s0)) := (rn_ev ..).trans (ev_pk rfl)
theorem x241_28 (l0 l1 : Value) (H : HS) : rn 241 28 [l0, l1] [] H = rn 241 29 [l0, l1] [.int 0] H := rn_nx rfl
theorem x241_29 (l0 l1 : Value) (s0 : Int32) (H : HS) : rn 241 29 [l0, l1] [.int s0] H = rn 241 30 [(kl l0), .int s0] [] H := rn_nx rfl
theorem x241_30 (l0 : Value) (l1 : Int32) (H : HS) : rn 241 30 [l0, .int l1] [] H = rn 241 31 [l0, .int l1] [.int l1] H := rn_nx rfl
theorem x241_31 (l0 l1 : Value) (s0 : Int32) (H : HS) : rn 241 31 [l0, l1] [.int s0] H = rn 241 33 [l0, l1] [.int 76, .int s0] H := rn_nx rfl
theorem x241_33 (l0 l1 : Value) (s0 : Int32) (s1 : Int32) (H : HS) : rn 241 33 [l0, l1] [.int s0, .int s1] H = if s1 < s0 then rn 241 36 [l0, l1] [] H else rn 241 62 [l0, l1] [] H := (rn_ev ..).trans (ev_bin rfl)
theorem x241_36 (l1 : Value) (l0 : Nat) (H : HS) : rn 241 36 [.ref l0, l1] [] H = rn 241 37 [.ref l0, l1] [.ref l0] H := rn_nx rfl
theorem x241_37 (l0 l1 : Value) (s0 : Nat) (H : HS) : rn 241 37 [l0, l1] [.ref s0] H = gk 241 40 [l0, l1] [] H (gfd H 5 0 s0) := (rn_ev ..).trans (ev_gk rfl)
theorem x241_40 (l0 : Value) (l1 : Int32) (s0 : Nat) (H : HS) : rn 241 40 [l0, .int l1] [.ref s0] H = rn 241 41 [l0, .int l1] [.int l1, .ref s0] H := rn_nx rfl
theorem x241_41 (l1 : Value) (l0 : Nat) (s0 : Int32) (s1 : Nat) (H : HS) : rn 241 41 [.ref l0, l1] [.int s0, .ref s1] H = rn 241 42 [.ref l0, l1] [.ref l0, .int s0, .ref s1] H := rn_nx rfl
theorem x241_42 (l0 l1 : Value) (s0 : Nat) (s1 : Int32) (s2 : Nat) (H : HS) : rn 241 42 [l0, l1] [.ref s0, .int s1, .ref s2] H = gk 241 45 [l0, l1] [.int s1, .ref s2] H (gfd H 5 5 s0) := (rn_ev ..).trans (ev_gk rfl)
theorem x241_45 (l0 l1 : Value) (s0 : Nat) (s1 : Int32) (s2 : Nat) (H : HS) : rn 241 45 [l0, l1] [.ref s0, .int s1, .ref s2] H = rn 241 47 [l0, l1] [.int 76, .ref s0, .int s1, .ref s2] H := rn_nx rfl
theorem x241_47 (l1 : Value) (l0 : Nat) (s0 : Int32) (s1 : Nat) (s2 : Int32) (s3 : Nat) (H : HS) : rn 241 47 [.ref l0, l1] [.int s0, .ref s1, .int s2, .ref s3] H = rn 241 48 [.ref l0, l1] [.ref l0, .int s0, .ref s1, .int s2, .ref s3] H := rn_nx rfl
theorem x241_48 (l0 l1 : Value) (s0 : Nat) (s1 : Int32) (s2 : Nat) (s3 : Int32) (s4 : Nat) (H : HS) : rn 241 48 [l0, l1] [.ref s0, .int s1, .ref s2, .int s3, .ref s4] H = gk 241 51 [l0, l1] [.int s1, .ref s2, .int s3, .ref s4] H (gfd H 5 6 s0) := (rn_ev ..).trans (ev_gk rfl)
theorem x241_51 (l0 l1 : Value) (s0 : Int32) (s1 : Int32) (s2 : Nat) (s3 : Int32) (s4 : Nat) (H : HS) : rn 241 51 [l0, l1] [.int s0, .int s1, .ref s2, .int s3, .ref s4] H = rn 241 52 [l0, l1] [.int (s1 * s0), .ref s2, .int s3, .ref s4] H := rn_nx rfl
theorem x241_52 (l0 : Value) (l1 : Int32) (s0 : Int32) (s1 : Nat) (s2 : Int32) (s3 : Nat) (H : HS) : rn 241 52 [l0, .int l1] [.int s0, .ref s1, .int s2, .ref s3] H = rn 241 53 [l0, .int l1] [.int l1, .int s0, .ref s1, .int s2, .ref s3] H := rn_nx rfl
theorem x241_53 (l0 l1 : Value) (s0 : Int32) (s1 : Int32) (s2 : Nat) (s3 : Int32) (s4 : Nat) (H : HS) : rn 241 53 [l0, l1] [.int s0, .int s1, .ref s2, .int s3, .ref s4] H = rn 241 54 [l0, l1] [.int (s1 + s0), .ref s2, .int s3, .ref s4] H := rn_nx rfl
theorem x241_54 (l0 l1 : Value) (s0 : Int32) (s1 : Nat) (s2 : Int32) (s3 : Nat) (H : HS) : rn 241 54 [l0, l1] [.int s0, .ref s1, .int s2, .ref s3] H = gk 241 55 [l0, l1] [.int s2, .ref s3] H (ald H 100 s1 s0) := (rn_ev ..).trans (ev_gk rfl)
theorem x241_55 (l0 l1 : Value) (s0 : Int32) (s1 : Int32) (s2 : Nat) (H : HS) : rn 241 55 [l0, l1] [.int s0, .int s1, .ref s2] H = pk 241 56 [l0, l1] [] (ast H 100 s2 s1 (.int s0)) := (rn_ev ..).trans (ev_pk rfl)
theorem x241_56 (l0 : Value) (l1 : Int32) (H : HS) : rn 241 56 [l0, .int l1] [] H = rn 241 59 [(kl l0), .int (l1 + 1)] [] H := rn_nx rfl
theorem x241_59 (l0 l1 : Value) (H : HS) : rn 241 59 [l0, l1] [] H = rn 241 30 [l0, l1] [] H := rn_nx rfl
theorem x241_62 (l1 : Value) (l0 : Nat) (H : HS) : rn 241 62 [.ref l0, l1] [] H = rn 241 63 [.ref l0, l1] [.ref l0] H := rn_nx rfl
theorem x241_63 (l0 l1 : Value) (s0 : Nat) (H : HS) : rn 241 63 [l0, l1] [.ref s0] H = gk 241 66 [l0, l1] [] H (gfd H 5 6 s0) := (rn_ev ..).trans (ev_gk rfl)
theorem x241_66 (l0 l1 : Value) (s0 : Int32) (H : HS) : rn 241 66 [l0, l1] [.int s0] H = some (.inl (some (.int s0)), H) := rn_end rfl
theorem c241 (a0 : Nat) (H : HS) : rcal 241 [.ref a0] H = rn 241 0 [.ref a0, un] [] H := rfl
theorem x242_0 (l1 : Value) (l0 : Nat) (H : HS) : rn 242 0 [.ref l0, l1] [] H = rn 242 1 [.ref l0, l1] [.ref l0] H := rn_nx rfl
theorem x242_1 (l0 l1 : Value) (s0 : Nat) (H : HS) : rn 242 1 [l0, l1] [.ref s0] H = rn 242 2 [l0, l1] [.int 0, .ref s0] H := rn_nx rfl
theorem x242_2 (l0 l1 : Value) (s0 : Int32) (s1 : Nat) (H : HS) : rn 242 2 [l0, l1] [.int s0, .ref s1] H = pk 242 5 [l0, l1] [] (pfd H true 5 9 s1 (.int s0)) := (rn_ev ..).trans (ev_pk rfl)
theorem x242_5 (l0 l1 : Value) (H : HS) : rn 242 5 [l0, l1] [] H = rn 242 6 [l0, l1] [.int 0] H := rn_nx rfl
theorem x242_6 (l0 l1 : Value) (s0 : Int32) (H : HS) : rn 242 6 [l0, l1] [.int s0] H = rn 242 7 [(kl l0), .int s0] [] H := rn_nx rfl
theorem x242_7 (l0 : Value) (l1 : Int32) (H : HS) : rn 242 7 [l0, .int l1] [] H = rn 242 8 [l0, .int l1] [.int l1] H := rn_nx rfl
theorem x242_8 (l0 l1 : Value) (s0 : Int32) (H : HS) : rn 242 8 [l0, l1] [.int s0] H = rn 242 10 [l0, l1] [.int 76, .int s0] H := rn_nx rfl
theorem x242_10 (l0 l1 : Value) (s0 : Int32) (s1 : Int32) (H : HS) : rn 242 10 [l0, l1] [.int s0, .int s1] H = if s1 < s0 then rn 242 13 [l0, l1] [] H else rn 242 31 [l0, l1] [] H := (rn_ev ..).trans (ev_bin rfl)
theorem x242_13 (l1 : Value) (l0 : Nat) (H : HS) : rn 242 13 [.ref l0, l1] [] H = rn 242 14 [.ref l0, l1] [.ref l0] H := rn_nx rfl
theorem x242_14 (l0 l1 : Value) (s0 : Nat) (H : HS) : rn 242 14 [l0, l1] [.ref s0] H = gk 242 17 [l0, l1] [] H (gfd H 5 3 s0) := (rn_ev ..).trans (ev_gk rfl)
theorem x242_17 (l0 : Value) (l1 : Int32) (s0 : Nat) (H : HS) : rn 242 17 [l0, .int l1] [.ref s0] H = rn 242 18 [l0, .int l1] [.int l1, .ref s0] H := rn_nx rfl
theorem x242_18 (l1 : Value) (l0 : Nat) (s0 : Int32) (s1 : Nat) (H : HS) : rn 242 18 [.ref l0, l1] [.int s0, .ref s1] H = rn 242 19 [.ref l0, l1] [.ref l0, .int s0, .ref s1] H := rn_nx rfl
theorem x242_19 (l0 l1 : Value) (s0 : Nat) (s1 : Int32) (s2 : Nat) (H : HS) : rn 242 19 [l0, l1] [.ref s0, .int s1, .ref s2] H = gk 242 22 [l0, l1] [.int s1, .ref s2] H (gfd H 5 0 s0) := (rn_ev ..).trans (ev_gk rfl)
theorem x242_22 (l0 : Value) (l1 : Int32) (s0 : Nat) (s1 : Int32) (s2 : Nat) (H : HS) : rn 242 22 [l0, .int l1] [.ref s0, .int s1, .ref s2] H = rn 242 23 [l0, .int l1] [.int l1, .ref s0, .int s1, .ref s2] H := rn_nx rfl
theorem x242_23 (l0 l1 : Value) (s0 : Int32) (s1 : Nat) (s2 : Int32) (s3 : Nat) (H : HS) : rn 242 23 [l0, l1] [.int s0, .ref s1, .int s2, .ref s3] H = gk 242 24 [l0, l1] [.int s2, .ref s3] H (ald H 100 s1 s0) := (rn_ev ..).trans (ev_gk rfl)
theorem x242_24 (l0 l1 : Value) (s0 : Int32) (s1 : Int32) (s2 : Nat) (H : HS) : rn 242 24 [l0, l1] [.int s0, .int s1, .ref s2] H = pk 242 25 [l0, l1] [] (ast H 100 s2 s1 (.int s0)) := (rn_ev ..).trans (ev_pk rfl)
theorem x242_25 (l0 : Value) (l1 : Int32) (H : HS) : rn 242 25 [l0, .int l1] [] H = rn 242 28 [(kl l0), .int (l1 + 1)] [] H := rn_nx rfl
theorem x242_28 (l0 l1 : Value) (H : HS) : rn 242 28 [l0, l1] [] H = rn 242 7 [l0, l1] [] H := rn_nx rfl
theorem x242_31 (l1 : Value) (l0 : Nat) (H : HS) : rn 242 31 [.ref l0, l1] [] H = rn 242 32 [.ref l0, l1] [.ref l0] H := rn_nx rfl
theorem x242_32 (l0 l1 : Value) (s0 : Nat) (H : HS) : rn 242 32 [l0, l1] [.ref s0] H = rn 242 33 [l0, l1] [.int 1, .ref s0] H := rn_nx rfl
theorem x242_33 (l0 l1 : Value) (s0 : Int32) (s1 : Nat) (H : HS) : rn 242 33 [l0, l1] [.int s0, .ref s1] H = pk 242 36 [l0, l1] [] (pfd H true 5 4 s1 (.int s0)) := (rn_ev ..).trans (ev_pk rfl)
theorem x242_36 (l0 l1 : Value) (H : HS) : rn 242 36 [l0, l1] [] H = some (.inl none, H) := rn_end rfl
theorem c242 (a0 : Nat) (H : HS) : rcal 242 [.ref a0] H = rn 242 0 [.ref a0, un] [] H := rfl
theorem x243_0 (l1 : Value) (l0 : Nat) (H : HS) : rn 243 0 [.ref l0, l1] [] H = rn 243 1 [.ref l0, l1] [.ref l0] H := rn_nx rfl
theorem x243_1 (l0 l1 : Value) (s0 : Nat) (H : HS) : rn 243 1 [l0, l1] [.ref s0] H = rn 243 2 [l0, l1] [.int 0, .ref s0] H := rn_nx rfl
theorem x243_2 (l0 l1 : Value) (s0 : Int32) (s1 : Nat) (H : HS) : rn 243 2 [l0, l1] [.int s0, .ref s1] H = pk 243 5 [l0, l1] [] (pfd H true 5 9 s1 (.int s0)) := (rn_ev ..).trans (ev_pk rfl)
theorem x243_5 (l1 : Value) (l0 : Nat) (H : HS) : rn 243 5 [.ref l0, l1] [] H = rn 243 6 [.ref l0, l1] [.ref l0] H := rn_nx rfl
theorem x243_6 (l0 l1 : Value) (s0 : Nat) (H : HS) : rn 243 6 [l0, l1] [.ref s0] H = gk 243 9 [l0, l1] [] H (gfd H 5 4 s0) := (rn_ev ..).trans (ev_gk rfl)
theorem x243_9 (l0 l1 : Value) (s0 : Int32) (H : HS) : rn 243 9 [l0, l1] [.int s0] H = if s0 = 0 then rn 243 12 [l0, l1] [] H else rn 243 19 [l0, l1] [] H := (rn_ev ..).trans (ev_bin rfl)
theorem x243_12 (l1 : Value) (l0 : Nat) (H : HS) : rn 243 12 [.ref l0, l1] [] H = rn 243 13 [.ref l0, l1] [.ref l0] H := rn_nx rfl
theorem x243_13 (l0 l1 : Value) (s0 : Nat) (H : HS) : rn 243 13 [l0, l1] [.ref s0] H = rn 243 14 [l0, l1] [.int 1, .ref s0] H := rn_nx rfl
theorem x243_14 (l0 l1 : Value) (s0 : Int32) (s1 : Nat) (H : HS) (h : recv H s1 5 = true) : rn 243 14 [l0, l1] [.int s0, .ref s1] H = bnd true 243 14 [l0, l1] [] (rcal 150 [.ref s1, .int s0] H) := rn_cal (vcal h rfl)
theorem x243_17 (l0 l1 : Value) (s0 : Int32) (H : HS) : rn 243 17 [l0, l1] [.int s0] H = rn 243 18 [l0, l1] [] H := rn_nx rfl
theorem x243_18 (l0 l1 : Value) (H : HS) : rn 243 18 [l0, l1] [] H = some (.inl none, H) := rn_end rfl
theorem x243_19 (l0 l1 : Value) (H : HS) : rn 243 19 [l0, l1] [] H = rn 243 20 [l0, l1] [.int 0] H := rn_nx rfl
theorem x243_20 (l0 l1 : Value) (s0 : Int32) (H : HS) : rn 243 20 [l0, l1] [.int s0] H = rn 243 21 [(kl l0), .int s0] [] H := rn_nx rfl
theorem x243_21 (l0 : Value) (l1 : Int32) (H : HS) : rn 243 21 [l0, .int l1] [] H = rn 243 22 [l0, .int l1] [.int l1] H := rn_nx rfl
theorem x243_22 (l0 l1 : Value) (s0 : Int32) (H : HS) : rn 243 22 [l0, l1] [.int s0] H = rn 243 24 [l0, l1] [.int 76, .int s0] H := rn_nx rfl
theorem x243_24 (l0 l1 : Value) (s0 : Int32) (s1 : Int32) (H : HS) : rn 243 24 [l0, l1] [.int s0, .int s1] H = if s1 < s0 then rn 243 27 [l0, l1] [] H else rn 243 45 [l0, l1] [] H := (rn_ev ..).trans (ev_bin rfl)
theorem x243_27 (l1 : Value) (l0 : Nat) (H : HS) : rn 243 27 [.ref l0, l1] [] H = rn 243 28 [.ref l0, l1] [.ref l0] H := rn_nx rfl
theorem x243_28 (l0 l1 : Value) (s0 : Nat) (H : HS) : rn 243 28 [l0, l1] [.ref s0] H = gk 243 31 [l0, l1] [] H (gfd H 5 0 s0) := (rn_ev ..).trans (ev_gk rfl)
theorem x243_31 (l0 : Value) (l1 : Int32) (s0 : Nat) (H : HS) : rn 243 31 [l0, .int l1] [.ref s0] H = rn 243 32 [l0, .int l1] [.int l1, .ref s0] H := rn_nx rfl
theorem x243_32 (l1 : Value) (l0 : Nat) (s0 : Int32) (s1 : Nat) (H : HS) : rn 243 32 [.ref l0, l1] [.int s0, .ref s1] H = rn 243 33 [.ref l0, l1] [.ref l0, .int s0, .ref s1] H := rn_nx rfl
theorem x243_33 (l0 l1 : Value) (s0 : Nat) (s1 : Int32) (s2 : Nat) (H : HS) : rn 243 33 [l0, l1] [.ref s0, .int s1, .ref s2] H = gk 243 36 [l0, l1] [.int s1, .ref s2] H (gfd H 5 3 s0) := (rn_ev ..).trans (ev_gk rfl)
theorem x243_36 (l0 : Value) (l1 : Int32) (s0 : Nat) (s1 : Int32) (s2 : Nat) (H : HS) : rn 243 36 [l0, .int l1] [.ref s0, .int s1, .ref s2] H = rn 243 37 [l0, .int l1] [.int l1, .ref s0, .int s1, .ref s2] H := rn_nx rfl
theorem x243_37 (l0 l1 : Value) (s0 : Int32) (s1 : Nat) (s2 : Int32) (s3 : Nat) (H : HS) : rn 243 37 [l0, l1] [.int s0, .ref s1, .int s2, .ref s3] H = gk 243 38 [l0, l1] [.int s2, .ref s3] H (ald H 100 s1 s0) := (rn_ev ..).trans (ev_gk rfl)
theorem x243_38 (l0 l1 : Value) (s0 : Int32) (s1 : Int32) (s2 : Nat) (H : HS) : rn 243 38 [l0, l1] [.int s0, .int s1, .ref s2] H = pk 243 39 [l0, l1] [] (ast H 100 s2 s1 (.int s0)) := (rn_ev ..).trans (ev_pk rfl)
theorem x243_39 (l0 : Value) (l1 : Int32) (H : HS) : rn 243 39 [l0, .int l1] [] H = rn 243 42 [(kl l0), .int (l1 + 1)] [] H := rn_nx rfl
theorem x243_42 (l0 l1 : Value) (H : HS) : rn 243 42 [l0, l1] [] H = rn 243 21 [l0, l1] [] H := rn_nx rfl
theorem x243_45 (l1 : Value) (l0 : Nat) (H : HS) : rn 243 45 [.ref l0, l1] [] H = rn 243 46 [.ref l0, l1] [.ref l0] H := rn_nx rfl
theorem x243_46 (l0 l1 : Value) (s0 : Nat) (H : HS) : rn 243 46 [l0, l1] [.ref s0] H = rn 243 47 [l0, l1] [.int 0, .ref s0] H := rn_nx rfl
theorem x243_47 (l0 l1 : Value) (s0 : Int32) (s1 : Nat) (H : HS) : rn 243 47 [l0, l1] [.int s0, .ref s1] H = pk 243 50 [l0, l1] [] (pfd H true 5 6 s1 (.int s0)) := (rn_ev ..).trans (ev_pk rfl)
theorem x243_50 (l0 l1 : Value) (H : HS) : rn 243 50 [l0, l1] [] H = some (.inl none, H) := rn_end rfl
theorem c243 (a0 : Nat) (H : HS) : rcal 243 [.ref a0] H = rn 243 0 [.ref a0, un] [] H := rfl
