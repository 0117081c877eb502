section LK
variable {X : XX} {G : GG} {Z : ZZ} {M : Mem} {k n : Nat} {Q : State → Prop} {pc : Nat} {L : List (Nat × Value)} {rest : List Value} {own : String} {cc : ByteArray} {ret : Option FieldType} {d mc ms nL : Nat}
theorem kw_J6_265 : Cond.constant RJ6 265 (1431655765) ∈ TW := (tw_in mm_493 rfl)
theorem kw_J6_266 : Cond.constant RJ6 266 (858993459) ∈ TW := (tw_in mm_494 rfl)
theorem kw_J6_267 : Cond.constant RJ6 267 (252645135) ∈ TW := (tw_in mm_495 rfl)
theorem kw_X2_68 : Cond.constant RX2 68 (1000000) ∈ TW := (tw_in mm_481 rfl)
theorem kw_X5_191 : Cond.constant RX5 191 (1000000) ∈ TW := (tw_in mm_809 rfl)
theorem kw_X5_199 : Cond.constantLong RX5 199 (100000) ∈ TW := (tw_in mm_820 rfl)
theorem kw_X5_204 : Cond.constantLong RX5 204 (6364136223846793005) ∈ TW := (tw_in mm_850 rfl)
theorem kw_X5_206 : Cond.constantLong RX5 206 (1442695040888963407) ∈ TW := (tw_in mm_851 rfl)
theorem kw_X3_32 : Cond.fieldLinkNest RX3 32 "HandSpans" "SETTING_AT_FIRST" "[I" "HandSpans" ∈ TW := (tw_in mm_83 rfl)
theorem kw_X3_39 : Cond.fieldLinkNest RX3 39 "HandSpans" "LEAST_SETTING" "[I" "HandSpans" ∈ TW := (tw_in mm_660 rfl)
theorem kw_X3_42 : Cond.fieldLinkNest RX3 42 "HandSpans" "MOST_SETTING" "[I" "HandSpans" ∈ TW := (tw_in mm_662 rfl)
theorem gf_X0_9 {i : Nat} {F : Nat → Option (Option Nat)} {v : Value} (hC : Cx X G RX0 cc ret d mc ms nL) (hi : At Z i (.inl (0, 14, F))) (hv : fv Z.1 (M i) F 0 = v) (hdg : decode cc pc = .ok (.getfield 9, 3)) (kk : V X G Z M k n Q (pc + 3) L (v :: rest)) : V X G Z M k n Q pc L (.ref (Z.1 i) :: rest) :=
  r_get tw_wsX0 rfl 0 (by decide) rfl (tw_in mm_118 rfl) hC hi hv hdg kk
theorem gf_X0_15 {i : Nat} {F : Nat → Option (Option Nat)} {v : Value} (hC : Cx X G RX0 cc ret d mc ms nL) (hi : At Z i (.inl (0, 14, F))) (hv : fv Z.1 (M i) F 4 = v) (hdg : decode cc pc = .ok (.getfield 15, 3)) (kk : V X G Z M k n Q (pc + 3) L (v :: rest)) : V X G Z M k n Q pc L (.ref (Z.1 i) :: rest) :=
  r_get tw_wsX0 rfl 4 (by decide) rfl (tw_in mm_122 rfl) hC hi hv hdg kk
theorem gf_X0_18 {i : Nat} {F : Nat → Option (Option Nat)} {v : Value} (hC : Cx X G RX0 cc ret d mc ms nL) (hi : At Z i (.inl (0, 14, F))) (hv : fv Z.1 (M i) F 5 = v) (hdg : decode cc pc = .ok (.getfield 18, 3)) (kk : V X G Z M k n Q (pc + 3) L (v :: rest)) : V X G Z M k n Q pc L (.ref (Z.1 i) :: rest) :=
  r_get tw_wsX0 rfl 5 (by decide) rfl (tw_in mm_123 rfl) hC hi hv hdg kk
theorem gf_X0_21 {i : Nat} {F : Nat → Option (Option Nat)} {v : Value} (hC : Cx X G RX0 cc ret d mc ms nL) (hi : At Z i (.inl (0, 14, F))) (hv : fv Z.1 (M i) F 8 = v) (hdg : decode cc pc = .ok (.getfield 21, 3)) (kk : V X G Z M k n Q (pc + 3) L (v :: rest)) : V X G Z M k n Q pc L (.ref (Z.1 i) :: rest) :=
  r_get tw_wsX0 rfl 8 (by decide) rfl (tw_in mm_129 rfl) hC hi hv hdg kk
theorem gf_X0_24 {i : Nat} {F : Nat → Option (Option Nat)} {v : Value} (hC : Cx X G RX0 cc ret d mc ms nL) (hi : At Z i (.inl (0, 14, F))) (hv : fv Z.1 (M i) F 11 = v) (hdg : decode cc pc = .ok (.getfield 24, 3)) (kk : V X G Z M k n Q (pc + 3) L (v :: rest)) : V X G Z M k n Q pc L (.ref (Z.1 i) :: rest) :=
  r_get tw_wsX0 rfl 11 (by decide) rfl (tw_in mm_134 rfl) hC hi hv hdg kk
theorem gf_X0_29 {i : Nat} {F : Nat → Option (Option Nat)} {v : Value} (hC : Cx X G RX0 cc ret d mc ms nL) (hi : At Z i (.inl (0, 14, F))) (hv : fv Z.1 (M i) F 12 = v) (hdg : decode cc pc = .ok (.getfield 29, 3)) (kk : V X G Z M k n Q (pc + 3) L (v :: rest)) : V X G Z M k n Q pc L (.ref (Z.1 i) :: rest) :=
  r_get tw_wsX0 rfl 12 (by decide) rfl (tw_in mm_135 rfl) hC hi hv hdg kk
theorem gf_X0_32 {i : Nat} {F : Nat → Option (Option Nat)} {v : Value} (hC : Cx X G RX0 cc ret d mc ms nL) (hi : At Z i (.inl (0, 14, F))) (hv : fv Z.1 (M i) F 13 = v) (hdg : decode cc pc = .ok (.getfield 32, 3)) (kk : V X G Z M k n Q (pc + 3) L (v :: rest)) : V X G Z M k n Q pc L (.ref (Z.1 i) :: rest) :=
  r_get tw_wsX0 rfl 13 (by decide) rfl (tw_in mm_137 rfl) hC hi hv hdg kk
theorem gf_X0_43 {i : Nat} {F : Nat → Option (Option Nat)} {v : Value} (hC : Cx X G RX0 cc ret d mc ms nL) (hi : At Z i (.inl (3, 4, F))) (hv : fv Z.1 (M i) F 2 = v) (hdg : decode cc pc = .ok (.getfield 43, 3)) (kk : V X G Z M k n Q (pc + 3) L (v :: rest)) : V X G Z M k n Q pc L (.ref (Z.1 i) :: rest) :=
  r_getN tw_wsX3 rfl 2 (by decide) rfl (tw_in mm_88 rfl) hC hi hv hdg kk
theorem gf_X0_56 {i : Nat} {F : Nat → Option (Option Nat)} {v : Value} (hC : Cx X G RX0 cc ret d mc ms nL) (hi : At Z i (.inl (0, 14, F))) (hv : fv Z.1 (M i) F 10 = v) (hdg : decode cc pc = .ok (.getfield 56, 3)) (kk : V X G Z M k n Q (pc + 3) L (v :: rest)) : V X G Z M k n Q pc L (.ref (Z.1 i) :: rest) :=
  r_get tw_wsX0 rfl 10 (by decide) rfl (tw_in mm_132 rfl) hC hi hv hdg kk
theorem gf_X0_63 {i : Nat} {F : Nat → Option (Option Nat)} {v : Value} (hC : Cx X G RX0 cc ret d mc ms nL) (hi : At Z i (.inl (0, 14, F))) (hv : fv Z.1 (M i) F 1 = v) (hdg : decode cc pc = .ok (.getfield 63, 3)) (kk : V X G Z M k n Q (pc + 3) L (v :: rest)) : V X G Z M k n Q pc L (.ref (Z.1 i) :: rest) :=
  r_get tw_wsX0 rfl 1 (by decide) rfl (tw_in mm_119 rfl) hC hi hv hdg kk
theorem gf_X0_66 {i : Nat} {F : Nat → Option (Option Nat)} {v : Value} (hC : Cx X G RX0 cc ret d mc ms nL) (hi : At Z i (.inl (0, 14, F))) (hv : fv Z.1 (M i) F 2 = v) (hdg : decode cc pc = .ok (.getfield 66, 3)) (kk : V X G Z M k n Q (pc + 3) L (v :: rest)) : V X G Z M k n Q pc L (.ref (Z.1 i) :: rest) :=
  r_get tw_wsX0 rfl 2 (by decide) rfl (tw_in mm_120 rfl) hC hi hv hdg kk
theorem gf_X0_69 {i : Nat} {F : Nat → Option (Option Nat)} {v : Value} (hC : Cx X G RX0 cc ret d mc ms nL) (hi : At Z i (.inl (0, 14, F))) (hv : fv Z.1 (M i) F 3 = v) (hdg : decode cc pc = .ok (.getfield 69, 3)) (kk : V X G Z M k n Q (pc + 3) L (v :: rest)) : V X G Z M k n Q pc L (.ref (Z.1 i) :: rest) :=
  r_get tw_wsX0 rfl 3 (by decide) rfl (tw_in mm_121 rfl) hC hi hv hdg kk
theorem gf_X0_73 {i : Nat} {F : Nat → Option (Option Nat)} {v : Value} (hC : Cx X G RX0 cc ret d mc ms nL) (hi : At Z i (.inl (0, 14, F))) (hv : fv Z.1 (M i) F 6 = v) (hdg : decode cc pc = .ok (.getfield 73, 3)) (kk : V X G Z M k n Q (pc + 3) L (v :: rest)) : V X G Z M k n Q pc L (.ref (Z.1 i) :: rest) :=
  r_get tw_wsX0 rfl 6 (by decide) rfl (tw_in mm_125 rfl) hC hi hv hdg kk
theorem gf_X0_87 {i : Nat} {F : Nat → Option (Option Nat)} {v : Value} (hC : Cx X G RX0 cc ret d mc ms nL) (hi : At Z i (.inl (0, 14, F))) (hv : fv Z.1 (M i) F 9 = v) (hdg : decode cc pc = .ok (.getfield 87, 3)) (kk : V X G Z M k n Q (pc + 3) L (v :: rest)) : V X G Z M k n Q pc L (.ref (Z.1 i) :: rest) :=
  r_get tw_wsX0 rfl 9 (by decide) rfl (tw_in mm_130 rfl) hC hi hv hdg kk
theorem gf_X0_94 {i : Nat} {F : Nat → Option (Option Nat)} {v : Value} (hC : Cx X G RX0 cc ret d mc ms nL) (hi : At Z i (.inl (0, 14, F))) (hv : fv Z.1 (M i) F 7 = v) (hdg : decode cc pc = .ok (.getfield 94, 3)) (kk : V X G Z M k n Q (pc + 3) L (v :: rest)) : V X G Z M k n Q pc L (.ref (Z.1 i) :: rest) :=
  r_get tw_wsX0 rfl 7 (by decide) rfl (tw_in mm_127 rfl) hC hi hv hdg kk
theorem gf_X1_11 {i : Nat} {F : Nat → Option (Option Nat)} {v : Value} (hC : Cx X G RX1 cc ret d mc ms nL) (hi : At Z i (.inl (1, 3, F))) (hv : fv Z.1 (M i) F 0 = v) (hdg : decode cc pc = .ok (.getfield 11, 3)) (kk : V X G Z M k n Q (pc + 3) L (v :: rest)) : V X G Z M k n Q pc L (.ref (Z.1 i) :: rest) :=
  r_get tw_wsX1 rfl 0 (by decide) rfl (tw_in mm_194 rfl) hC hi hv hdg kk
theorem gf_X1_18 {i : Nat} {F : Nat → Option (Option Nat)} {v : Value} (hC : Cx X G RX1 cc ret d mc ms nL) (hi : At Z i (.inl (1, 3, F))) (hv : fv Z.1 (M i) F 2 = v) (hdg : decode cc pc = .ok (.getfield 18, 3)) (kk : V X G Z M k n Q (pc + 3) L (v :: rest)) : V X G Z M k n Q pc L (.ref (Z.1 i) :: rest) :=
  r_get tw_wsX1 rfl 2 (by decide) rfl (tw_in mm_196 rfl) hC hi hv hdg kk
theorem gf_X1_22 {i : Nat} {F : Nat → Option (Option Nat)} {v : Value} (hC : Cx X G RX1 cc ret d mc ms nL) (hi : At Z i (.inl (1, 3, F))) (hv : fv Z.1 (M i) F 1 = v) (hdg : decode cc pc = .ok (.getfield 22, 3)) (kk : V X G Z M k n Q (pc + 3) L (v :: rest)) : V X G Z M k n Q pc L (.ref (Z.1 i) :: rest) :=
  r_get tw_wsX1 rfl 1 (by decide) rfl (tw_in mm_195 rfl) hC hi hv hdg kk
theorem gf_X2_11 {i : Nat} {F : Nat → Option (Option Nat)} {v : Value} (hC : Cx X G RX2 cc ret d mc ms nL) (hi : At Z i (.inl (2, 5, F))) (hv : fv Z.1 (M i) F 0 = v) (hdg : decode cc pc = .ok (.getfield 11, 3)) (kk : V X G Z M k n Q (pc + 3) L (v :: rest)) : V X G Z M k n Q pc L (.ref (Z.1 i) :: rest) :=
  r_get tw_wsX2 rfl 0 (by decide) rfl (tw_in mm_169 rfl) hC hi hv hdg kk
theorem gf_X2_18 {i : Nat} {F : Nat → Option (Option Nat)} {v : Value} (hC : Cx X G RX2 cc ret d mc ms nL) (hi : At Z i (.inl (2, 5, F))) (hv : fv Z.1 (M i) F 1 = v) (hdg : decode cc pc = .ok (.getfield 18, 3)) (kk : V X G Z M k n Q (pc + 3) L (v :: rest)) : V X G Z M k n Q pc L (.ref (Z.1 i) :: rest) :=
  r_get tw_wsX2 rfl 1 (by decide) rfl (tw_in mm_170 rfl) hC hi hv hdg kk
theorem gf_X2_22 {i : Nat} {F : Nat → Option (Option Nat)} {v : Value} (hC : Cx X G RX2 cc ret d mc ms nL) (hi : At Z i (.inl (2, 5, F))) (hv : fv Z.1 (M i) F 2 = v) (hdg : decode cc pc = .ok (.getfield 22, 3)) (kk : V X G Z M k n Q (pc + 3) L (v :: rest)) : V X G Z M k n Q pc L (.ref (Z.1 i) :: rest) :=
  r_get tw_wsX2 rfl 2 (by decide) rfl (tw_in mm_171 rfl) hC hi hv hdg kk
theorem gf_X2_28 {i : Nat} {F : Nat → Option (Option Nat)} {v : Value} (hC : Cx X G RX2 cc ret d mc ms nL) (hi : At Z i (.inl (2, 5, F))) (hv : fv Z.1 (M i) F 3 = v) (hdg : decode cc pc = .ok (.getfield 28, 3)) (kk : V X G Z M k n Q (pc + 3) L (v :: rest)) : V X G Z M k n Q pc L (.ref (Z.1 i) :: rest) :=
  r_get tw_wsX2 rfl 3 (by decide) rfl (tw_in mm_172 rfl) hC hi hv hdg kk
theorem gf_X2_31 {i : Nat} {F : Nat → Option (Option Nat)} {v : Value} (hC : Cx X G RX2 cc ret d mc ms nL) (hi : At Z i (.inl (3, 4, F))) (hv : fv Z.1 (M i) F 3 = v) (hdg : decode cc pc = .ok (.getfield 31, 3)) (kk : V X G Z M k n Q (pc + 3) L (v :: rest)) : V X G Z M k n Q pc L (.ref (Z.1 i) :: rest) :=
  r_getN tw_wsX3 rfl 3 (by decide) rfl (tw_in mm_90 rfl) hC hi hv hdg kk
theorem gf_X2_37 {i : Nat} {F : Nat → Option (Option Nat)} {v : Value} (hC : Cx X G RX2 cc ret d mc ms nL) (hi : At Z i (.inl (2, 5, F))) (hv : fv Z.1 (M i) F 4 = v) (hdg : decode cc pc = .ok (.getfield 37, 3)) (kk : V X G Z M k n Q (pc + 3) L (v :: rest)) : V X G Z M k n Q pc L (.ref (Z.1 i) :: rest) :=
  r_get tw_wsX2 rfl 4 (by decide) rfl (tw_in mm_173 rfl) hC hi hv hdg kk
theorem gf_X2_76 {i : Nat} {F : Nat → Option (Option Nat)} {v : Value} (hC : Cx X G RX2 cc ret d mc ms nL) (hi : At Z i (.inl (0, 14, F))) (hv : fv Z.1 (M i) F 5 = v) (hdg : decode cc pc = .ok (.getfield 76, 3)) (kk : V X G Z M k n Q (pc + 3) L (v :: rest)) : V X G Z M k n Q pc L (.ref (Z.1 i) :: rest) :=
  r_getN tw_wsX0 rfl 5 (by decide) rfl (tw_in mm_124 rfl) hC hi hv hdg kk
theorem gf_X2_81 {i : Nat} {F : Nat → Option (Option Nat)} {v : Value} (hC : Cx X G RX2 cc ret d mc ms nL) (hi : At Z i (.inl (0, 14, F))) (hv : fv Z.1 (M i) F 6 = v) (hdg : decode cc pc = .ok (.getfield 81, 3)) (kk : V X G Z M k n Q (pc + 3) L (v :: rest)) : V X G Z M k n Q pc L (.ref (Z.1 i) :: rest) :=
  r_getN tw_wsX0 rfl 6 (by decide) rfl (tw_in mm_126 rfl) hC hi hv hdg kk
theorem gf_X2_91 {i : Nat} {F : Nat → Option (Option Nat)} {v : Value} (hC : Cx X G RX2 cc ret d mc ms nL) (hi : At Z i (.inl (0, 14, F))) (hv : fv Z.1 (M i) F 12 = v) (hdg : decode cc pc = .ok (.getfield 91, 3)) (kk : V X G Z M k n Q (pc + 3) L (v :: rest)) : V X G Z M k n Q pc L (.ref (Z.1 i) :: rest) :=
  r_getN tw_wsX0 rfl 12 (by decide) rfl (tw_in mm_136 rfl) hC hi hv hdg kk
theorem gf_X2_94 {i : Nat} {F : Nat → Option (Option Nat)} {v : Value} (hC : Cx X G RX2 cc ret d mc ms nL) (hi : At Z i (.inl (0, 14, F))) (hv : fv Z.1 (M i) F 13 = v) (hdg : decode cc pc = .ok (.getfield 94, 3)) (kk : V X G Z M k n Q (pc + 3) L (v :: rest)) : V X G Z M k n Q pc L (.ref (Z.1 i) :: rest) :=
  r_getN tw_wsX0 rfl 13 (by decide) rfl (tw_in mm_138 rfl) hC hi hv hdg kk
theorem gf_X2_103 {i : Nat} {F : Nat → Option (Option Nat)} {v : Value} (hC : Cx X G RX2 cc ret d mc ms nL) (hi : At Z i (.inl (0, 14, F))) (hv : fv Z.1 (M i) F 10 = v) (hdg : decode cc pc = .ok (.getfield 103, 3)) (kk : V X G Z M k n Q (pc + 3) L (v :: rest)) : V X G Z M k n Q pc L (.ref (Z.1 i) :: rest) :=
  r_getN tw_wsX0 rfl 10 (by decide) rfl (tw_in mm_133 rfl) hC hi hv hdg kk
theorem gf_X2_113 {i : Nat} {F : Nat → Option (Option Nat)} {v : Value} (hC : Cx X G RX2 cc ret d mc ms nL) (hi : At Z i (.inl (0, 14, F))) (hv : fv Z.1 (M i) F 9 = v) (hdg : decode cc pc = .ok (.getfield 113, 3)) (kk : V X G Z M k n Q (pc + 3) L (v :: rest)) : V X G Z M k n Q pc L (.ref (Z.1 i) :: rest) :=
  r_getN tw_wsX0 rfl 9 (by decide) rfl (tw_in mm_131 rfl) hC hi hv hdg kk
theorem gf_X2_122 {i : Nat} {F : Nat → Option (Option Nat)} {v : Value} (hC : Cx X G RX2 cc ret d mc ms nL) (hi : At Z i (.inl (0, 14, F))) (hv : fv Z.1 (M i) F 7 = v) (hdg : decode cc pc = .ok (.getfield 122, 3)) (kk : V X G Z M k n Q (pc + 3) L (v :: rest)) : V X G Z M k n Q pc L (.ref (Z.1 i) :: rest) :=
  r_getN tw_wsX0 rfl 7 (by decide) rfl (tw_in mm_128 rfl) hC hi hv hdg kk
theorem gf_X3_9 {i : Nat} {F : Nat → Option (Option Nat)} {v : Value} (hC : Cx X G RX3 cc ret d mc ms nL) (hi : At Z i (.inl (3, 4, F))) (hv : fv Z.1 (M i) F 0 = v) (hdg : decode cc pc = .ok (.getfield 9, 3)) (kk : V X G Z M k n Q (pc + 3) L (v :: rest)) : V X G Z M k n Q pc L (.ref (Z.1 i) :: rest) :=
  r_get tw_wsX3 rfl 0 (by decide) rfl (tw_in mm_85 rfl) hC hi hv hdg kk
theorem gf_X3_15 {i : Nat} {F : Nat → Option (Option Nat)} {v : Value} (hC : Cx X G RX3 cc ret d mc ms nL) (hi : At Z i (.inl (3, 4, F))) (hv : fv Z.1 (M i) F 1 = v) (hdg : decode cc pc = .ok (.getfield 15, 3)) (kk : V X G Z M k n Q (pc + 3) L (v :: rest)) : V X G Z M k n Q pc L (.ref (Z.1 i) :: rest) :=
  r_get tw_wsX3 rfl 1 (by decide) rfl (tw_in mm_86 rfl) hC hi hv hdg kk
theorem gf_X3_25 {i : Nat} {F : Nat → Option (Option Nat)} {v : Value} (hC : Cx X G RX3 cc ret d mc ms nL) (hi : At Z i (.inl (3, 4, F))) (hv : fv Z.1 (M i) F 2 = v) (hdg : decode cc pc = .ok (.getfield 25, 3)) (kk : V X G Z M k n Q (pc + 3) L (v :: rest)) : V X G Z M k n Q pc L (.ref (Z.1 i) :: rest) :=
  r_get tw_wsX3 rfl 2 (by decide) rfl (tw_in mm_87 rfl) hC hi hv hdg kk
theorem gf_X3_29 {i : Nat} {F : Nat → Option (Option Nat)} {v : Value} (hC : Cx X G RX3 cc ret d mc ms nL) (hi : At Z i (.inl (3, 4, F))) (hv : fv Z.1 (M i) F 3 = v) (hdg : decode cc pc = .ok (.getfield 29, 3)) (kk : V X G Z M k n Q (pc + 3) L (v :: rest)) : V X G Z M k n Q pc L (.ref (Z.1 i) :: rest) :=
  r_get tw_wsX3 rfl 3 (by decide) rfl (tw_in mm_91 rfl) hC hi hv hdg kk
theorem gf_X4_9 {i : Nat} {F : Nat → Option (Option Nat)} {v : Value} (hC : Cx X G RX4 cc ret d mc ms nL) (hi : At Z i (.inl (4, 3, F))) (hv : fv Z.1 (M i) F 0 = v) (hdg : decode cc pc = .ok (.getfield 9, 3)) (kk : V X G Z M k n Q (pc + 3) L (v :: rest)) : V X G Z M k n Q pc L (.ref (Z.1 i) :: rest) :=
  r_get tw_wsX4 rfl 0 (by decide) rfl (tw_in mm_58 rfl) hC hi hv hdg kk
theorem gf_X4_15 {i : Nat} {F : Nat → Option (Option Nat)} {v : Value} (hC : Cx X G RX4 cc ret d mc ms nL) (hi : At Z i (.inl (4, 3, F))) (hv : fv Z.1 (M i) F 1 = v) (hdg : decode cc pc = .ok (.getfield 15, 3)) (kk : V X G Z M k n Q (pc + 3) L (v :: rest)) : V X G Z M k n Q pc L (.ref (Z.1 i) :: rest) :=
  r_get tw_wsX4 rfl 1 (by decide) rfl (tw_in mm_59 rfl) hC hi hv hdg kk
theorem gf_X4_36 {i : Nat} {F : Nat → Option (Option Nat)} {v : Value} (hC : Cx X G RX4 cc ret d mc ms nL) (hi : At Z i (.inl (4, 3, F))) (hv : fv Z.1 (M i) F 2 = v) (hdg : decode cc pc = .ok (.getfield 36, 3)) (kk : V X G Z M k n Q (pc + 3) L (v :: rest)) : V X G Z M k n Q pc L (.ref (Z.1 i) :: rest) :=
  r_get tw_wsX4 rfl 2 (by decide) rfl (tw_in mm_60 rfl) hC hi hv hdg kk
theorem gf_X5_12 {i : Nat} {F : Nat → Option (Option Nat)} {v : Value} (hC : Cx X G RX5 cc ret d mc ms nL) (hi : At Z i (.inl (5, 7, F))) (hv : fv Z.1 (M i) F 0 = v) (hdg : decode cc pc = .ok (.getfield 12, 3)) (kk : V X G Z M k n Q (pc + 3) L (v :: rest)) : V X G Z M k n Q pc L (.ref (Z.1 i) :: rest) :=
  r_get tw_wsX5 rfl 0 (by decide) rfl (tw_in mm_204 rfl) hC hi hv hdg kk
theorem gf_X5_19 {i : Nat} {F : Nat → Option (Option Nat)} {v : Value} (hC : Cx X G RX5 cc ret d mc ms nL) (hi : At Z i (.inl (5, 7, F))) (hv : fv Z.1 (M i) F 1 = v) (hdg : decode cc pc = .ok (.getfield 19, 3)) (kk : V X G Z M k n Q (pc + 3) L (v :: rest)) : V X G Z M k n Q pc L (.ref (Z.1 i) :: rest) :=
  r_get tw_wsX5 rfl 1 (by decide) rfl (tw_in mm_205 rfl) hC hi hv hdg kk
theorem gf_X5_23 {i : Nat} {F : Nat → Option (Option Nat)} {v : Value} (hC : Cx X G RX5 cc ret d mc ms nL) (hi : At Z i (.inl (5, 7, F))) (hv : fv Z.1 (M i) F 2 = v) (hdg : decode cc pc = .ok (.getfield 23, 3)) (kk : V X G Z M k n Q (pc + 3) L (v :: rest)) : V X G Z M k n Q pc L (.ref (Z.1 i) :: rest) :=
  r_get tw_wsX5 rfl 2 (by decide) rfl (tw_in mm_206 rfl) hC hi hv hdg kk
theorem gf_X5_29 {i : Nat} {F : Nat → Option (Option Nat)} {v : Value} (hC : Cx X G RX5 cc ret d mc ms nL) (hi : At Z i (.inl (5, 7, F))) (hv : fv Z.1 (M i) F 3 = v) (hdg : decode cc pc = .ok (.getfield 29, 3)) (kk : V X G Z M k n Q (pc + 3) L (v :: rest)) : V X G Z M k n Q pc L (.ref (Z.1 i) :: rest) :=
  r_get tw_wsX5 rfl 3 (by decide) rfl (tw_in mm_207 rfl) hC hi hv hdg kk
theorem gf_X5_36 {i : Nat} {F : Nat → Option (Option Nat)} {v : Value} (hC : Cx X G RX5 cc ret d mc ms nL) (hi : At Z i (.inl (5, 7, F))) (hv : fv Z.1 (M i) F 4 = v) (hdg : decode cc pc = .ok (.getfield 36, 3)) (kk : V X G Z M k n Q (pc + 3) L (v :: rest)) : V X G Z M k n Q pc L (.ref (Z.1 i) :: rest) :=
  r_get tw_wsX5 rfl 4 (by decide) rfl (tw_in mm_208 rfl) hC hi hv hdg kk
theorem gf_X5_40 {i : Nat} {F : Nat → Option (Option Nat)} {v : Value} (hC : Cx X G RX5 cc ret d mc ms nL) (hi : At Z i (.inl (5, 7, F))) (hv : fv Z.1 (M i) F 5 = v) (hdg : decode cc pc = .ok (.getfield 40, 3)) (kk : V X G Z M k n Q (pc + 3) L (v :: rest)) : V X G Z M k n Q pc L (.ref (Z.1 i) :: rest) :=
  r_get tw_wsX5 rfl 5 (by decide) rfl (tw_in mm_209 rfl) hC hi hv hdg kk
theorem gf_X5_44 {i : Nat} {F : Nat → Option (Option Nat)} {v : Value} (hC : Cx X G RX5 cc ret d mc ms nL) (hi : At Z i (.inl (5, 7, F))) (hv : fv Z.1 (M i) F 6 = v) (hdg : decode cc pc = .ok (.getfield 44, 3)) (kk : V X G Z M k n Q (pc + 3) L (v :: rest)) : V X G Z M k n Q pc L (.ref (Z.1 i) :: rest) :=
  r_get tw_wsX5 rfl 6 (by decide) rfl (tw_in mm_210 rfl) hC hi hv hdg kk
theorem gf_X5_80 {i : Nat} {F : Nat → Option (Option Nat)} {v : Value} (hC : Cx X G RX5 cc ret d mc ms nL) (hi : At Z i (.inl (3, 4, F))) (hv : fv Z.1 (M i) F 3 = v) (hdg : decode cc pc = .ok (.getfield 80, 3)) (kk : V X G Z M k n Q (pc + 3) L (v :: rest)) : V X G Z M k n Q pc L (.ref (Z.1 i) :: rest) :=
  r_getN tw_wsX3 rfl 3 (by decide) rfl (tw_in mm_92 rfl) hC hi hv hdg kk
theorem gf_X5_88 {i : Nat} {F : Nat → Option (Option Nat)} {v : Value} (hC : Cx X G RX5 cc ret d mc ms nL) (hi : At Z i (.inl (3, 4, F))) (hv : fv Z.1 (M i) F 2 = v) (hdg : decode cc pc = .ok (.getfield 88, 3)) (kk : V X G Z M k n Q (pc + 3) L (v :: rest)) : V X G Z M k n Q pc L (.ref (Z.1 i) :: rest) :=
  r_getN tw_wsX3 rfl 2 (by decide) rfl (tw_in mm_89 rfl) hC hi hv hdg kk
theorem pf_X0_56 {i : Nat} {F : Nat → Option (Option Nat)} {x : Int32} (hC : Cx X G RX0 cc ret d mc ms nL) (hz : ZOk G Z) (hi : At Z i (.inl (0, 14, F))) (hF : F 10 = none) (hdg : decode cc pc = .ok (.putfield 56, 3)) (kk : V X G Z (mw M i 10 x) k n Q (pc + 3) L rest) : V X G Z M k n Q pc L (.int x :: .ref (Z.1 i) :: rest) :=
  r_put (ty := .int) tw_wsX0 tyX0 tyX0_ok nmX0 rfl 10 (by decide) rfl rfl (by decide +kernel) (tw_in mm_132 rfl) hC hz hi hF rfl rfl hdg kk
theorem pf_X0_63 {i : Nat} {F : Nat → Option (Option Nat)} {x : Int32} (hC : Cx X G RX0 cc ret d mc ms nL) (hz : ZOk G Z) (hi : At Z i (.inl (0, 14, F))) (hF : F 1 = none) (hdg : decode cc pc = .ok (.putfield 63, 3)) (kk : V X G Z (mw M i 1 x) k n Q (pc + 3) L rest) : V X G Z M k n Q pc L (.int x :: .ref (Z.1 i) :: rest) :=
  r_put (ty := .int) tw_wsX0 tyX0 tyX0_ok nmX0 rfl 1 (by decide) rfl rfl (by decide +kernel) (tw_in mm_119 rfl) hC hz hi hF rfl rfl hdg kk
theorem pf_X0_66 {i : Nat} {F : Nat → Option (Option Nat)} {x : Int32} (hC : Cx X G RX0 cc ret d mc ms nL) (hz : ZOk G Z) (hi : At Z i (.inl (0, 14, F))) (hF : F 2 = none) (hdg : decode cc pc = .ok (.putfield 66, 3)) (kk : V X G Z (mw M i 2 x) k n Q (pc + 3) L rest) : V X G Z M k n Q pc L (.int x :: .ref (Z.1 i) :: rest) :=
  r_put (ty := .int) tw_wsX0 tyX0 tyX0_ok nmX0 rfl 2 (by decide) rfl rfl (by decide +kernel) (tw_in mm_120 rfl) hC hz hi hF rfl rfl hdg kk
theorem pf_X0_69 {i : Nat} {F : Nat → Option (Option Nat)} {x : Int32} (hC : Cx X G RX0 cc ret d mc ms nL) (hz : ZOk G Z) (hi : At Z i (.inl (0, 14, F))) (hF : F 3 = none) (hnb : narrow .boolean (.int x) = .int x ∧ fits .boolean (.int x) = true) (hdg : decode cc pc = .ok (.putfield 69, 3)) (kk : V X G Z (mw M i 3 x) k n Q (pc + 3) L rest) : V X G Z M k n Q pc L (.int x :: .ref (Z.1 i) :: rest) :=
  r_put (ty := .boolean) tw_wsX0 tyX0 tyX0_ok nmX0 rfl 3 (by decide) rfl rfl (by decide +kernel) (tw_in mm_121 rfl) hC hz hi hF hnb.1 hnb.2 hdg kk
theorem pf_X0_73 {i : Nat} {F : Nat → Option (Option Nat)} {x : Int32} (hC : Cx X G RX0 cc ret d mc ms nL) (hz : ZOk G Z) (hi : At Z i (.inl (0, 14, F))) (hF : F 6 = none) (hdg : decode cc pc = .ok (.putfield 73, 3)) (kk : V X G Z (mw M i 6 x) k n Q (pc + 3) L rest) : V X G Z M k n Q pc L (.int x :: .ref (Z.1 i) :: rest) :=
  r_put (ty := .int) tw_wsX0 tyX0 tyX0_ok nmX0 rfl 6 (by decide) rfl rfl (by decide +kernel) (tw_in mm_125 rfl) hC hz hi hF rfl rfl hdg kk
theorem pf_X0_87 {i : Nat} {F : Nat → Option (Option Nat)} {x : Int32} (hC : Cx X G RX0 cc ret d mc ms nL) (hz : ZOk G Z) (hi : At Z i (.inl (0, 14, F))) (hF : F 9 = none) (hdg : decode cc pc = .ok (.putfield 87, 3)) (kk : V X G Z (mw M i 9 x) k n Q (pc + 3) L rest) : V X G Z M k n Q pc L (.int x :: .ref (Z.1 i) :: rest) :=
  r_put (ty := .int) tw_wsX0 tyX0 tyX0_ok nmX0 rfl 9 (by decide) rfl rfl (by decide +kernel) (tw_in mm_130 rfl) hC hz hi hF rfl rfl hdg kk
theorem pf_X0_94 {i : Nat} {F : Nat → Option (Option Nat)} {x : Int32} (hC : Cx X G RX0 cc ret d mc ms nL) (hz : ZOk G Z) (hi : At Z i (.inl (0, 14, F))) (hF : F 7 = none) (hdg : decode cc pc = .ok (.putfield 94, 3)) (kk : V X G Z (mw M i 7 x) k n Q (pc + 3) L rest) : V X G Z M k n Q pc L (.int x :: .ref (Z.1 i) :: rest) :=
  r_put (ty := .int) tw_wsX0 tyX0 tyX0_ok nmX0 rfl 7 (by decide) rfl rfl (by decide +kernel) (tw_in mm_127 rfl) hC hz hi hF rfl rfl hdg kk
theorem pf_X1_18 {i : Nat} {F : Nat → Option (Option Nat)} {x : Int32} (hC : Cx X G RX1 cc ret d mc ms nL) (hz : ZOk G Z) (hi : At Z i (.inl (1, 3, F))) (hF : F 2 = none) (hdg : decode cc pc = .ok (.putfield 18, 3)) (kk : V X G Z (mw M i 2 x) k n Q (pc + 3) L rest) : V X G Z M k n Q pc L (.int x :: .ref (Z.1 i) :: rest) :=
  r_put (ty := .int) tw_wsX1 tyX1 tyX1_ok nmX1 rfl 2 (by decide) rfl rfl (by decide +kernel) (tw_in mm_196 rfl) hC hz hi hF rfl rfl hdg kk
theorem pf_X1_22 {i : Nat} {F : Nat → Option (Option Nat)} {x : Int32} (hC : Cx X G RX1 cc ret d mc ms nL) (hz : ZOk G Z) (hi : At Z i (.inl (1, 3, F))) (hF : F 1 = none) (hdg : decode cc pc = .ok (.putfield 22, 3)) (kk : V X G Z (mw M i 1 x) k n Q (pc + 3) L rest) : V X G Z M k n Q pc L (.int x :: .ref (Z.1 i) :: rest) :=
  r_put (ty := .int) tw_wsX1 tyX1 tyX1_ok nmX1 rfl 1 (by decide) rfl rfl (by decide +kernel) (tw_in mm_195 rfl) hC hz hi hF rfl rfl hdg kk
theorem pf_X2_37 {i : Nat} {F : Nat → Option (Option Nat)} {x : Int32} (hC : Cx X G RX2 cc ret d mc ms nL) (hz : ZOk G Z) (hi : At Z i (.inl (2, 5, F))) (hF : F 4 = none) (hdg : decode cc pc = .ok (.putfield 37, 3)) (kk : V X G Z (mw M i 4 x) k n Q (pc + 3) L rest) : V X G Z M k n Q pc L (.int x :: .ref (Z.1 i) :: rest) :=
  r_put (ty := .int) tw_wsX2 tyX2 tyX2_ok nmX2 rfl 4 (by decide) rfl rfl (by decide +kernel) (tw_in mm_173 rfl) hC hz hi hF rfl rfl hdg kk
theorem pf_X3_25 {i : Nat} {F : Nat → Option (Option Nat)} {x : Int32} (hC : Cx X G RX3 cc ret d mc ms nL) (hz : ZOk G Z) (hi : At Z i (.inl (3, 4, F))) (hF : F 2 = none) (hdg : decode cc pc = .ok (.putfield 25, 3)) (kk : V X G Z (mw M i 2 x) k n Q (pc + 3) L rest) : V X G Z M k n Q pc L (.int x :: .ref (Z.1 i) :: rest) :=
  r_put (ty := .int) tw_wsX3 tyX3 tyX3_ok nmX3 rfl 2 (by decide) rfl rfl (by decide +kernel) (tw_in mm_87 rfl) hC hz hi hF rfl rfl hdg kk
theorem pf_X3_29 {i : Nat} {F : Nat → Option (Option Nat)} {x : Int32} (hC : Cx X G RX3 cc ret d mc ms nL) (hz : ZOk G Z) (hi : At Z i (.inl (3, 4, F))) (hF : F 3 = none) (hdg : decode cc pc = .ok (.putfield 29, 3)) (kk : V X G Z (mw M i 3 x) k n Q (pc + 3) L rest) : V X G Z M k n Q pc L (.int x :: .ref (Z.1 i) :: rest) :=
  r_put (ty := .int) tw_wsX3 tyX3 tyX3_ok nmX3 rfl 3 (by decide) rfl rfl (by decide +kernel) (tw_in mm_91 rfl) hC hz hi hF rfl rfl hdg kk
theorem pf_X4_15 {i : Nat} {F : Nat → Option (Option Nat)} {x : Int32} (hC : Cx X G RX4 cc ret d mc ms nL) (hz : ZOk G Z) (hi : At Z i (.inl (4, 3, F))) (hF : F 1 = none) (hdg : decode cc pc = .ok (.putfield 15, 3)) (kk : V X G Z (mw M i 1 x) k n Q (pc + 3) L rest) : V X G Z M k n Q pc L (.int x :: .ref (Z.1 i) :: rest) :=
  r_put (ty := .int) tw_wsX4 tyX4 tyX4_ok nmX4 rfl 1 (by decide) rfl rfl (by decide +kernel) (tw_in mm_59 rfl) hC hz hi hF rfl rfl hdg kk
theorem pf_X4_36 {i : Nat} {F : Nat → Option (Option Nat)} {x : Int32} (hC : Cx X G RX4 cc ret d mc ms nL) (hz : ZOk G Z) (hi : At Z i (.inl (4, 3, F))) (hF : F 2 = none) (hdg : decode cc pc = .ok (.putfield 36, 3)) (kk : V X G Z (mw M i 2 x) k n Q (pc + 3) L rest) : V X G Z M k n Q pc L (.int x :: .ref (Z.1 i) :: rest) :=
  r_put (ty := .int) tw_wsX4 tyX4 tyX4_ok nmX4 rfl 2 (by decide) rfl rfl (by decide +kernel) (tw_in mm_60 rfl) hC hz hi hF rfl rfl hdg kk
end LK
theorem cs_X0_35 : CsV RX0 35 yX0_readSettings cX0_readSettings 3 none 1 := csV_of mm_419 mm_421 mm_4 mm_34 mm_422 (by decide +kernel)
theorem cs_X0_39 : CsV RX0 39 yX0_readNotes cX0_readNotes 4 none 2 := csV_of mm_424 mm_426 mm_5 mm_34 mm_427 (by decide +kernel)
theorem cs_X0_49 : CsV RX0 49 yX0_reasonFor cX0_reasonFor 6 (some .int) 2 := csV_of mm_433 mm_435 mm_6 mm_34 mm_436 (by decide +kernel)
theorem cs_X0_53 : CsV RX0 53 yX0_share cX0_share 2 none 0 := csV_of mm_440 mm_442 mm_7 mm_34 mm_443 (by decide +kernel)
theorem cs_X0_59 : CsV RX0 59 yX3_settingAt cX3_settingAt 2 (some .int) 1 := csV_of mm_423 mm_284 mm_285 mm_32 mm_286 (by decide +kernel)
theorem cs_X0_76 : CsV RX0 76 yX3_sounding cX3_sounding 5 (some .int) 2 := csV_of mm_428 mm_429 mm_430 mm_32 mm_431 (by decide +kernel)
theorem cs_X0_79 : CsV RX0 79 yX3_written cX3_written 3 (some .int) 2 := csV_of mm_432 mm_253 mm_254 mm_32 mm_255 (by decide +kernel)
theorem cs_X0_90 : CsV RX0 90 yX0_insert cX0_insert 3 none 1 := csV_of mm_444 mm_446 mm_8 mm_34 mm_447 (by decide +kernel)
theorem cs_X0_97 : CsV RX0 97 yX0_measure cX0_measure 5 none 4 := csV_of mm_448 mm_450 mm_9 mm_34 mm_451 (by decide +kernel)
theorem cs_X0_101 : CsV RX0 101 yX0_canPlay cX0_canPlay 4 (some .boolean) 2 := csV_of mm_452 mm_454 mm_10 mm_34 mm_455 (by decide +kernel)
theorem cs_X0_105 : CsV RX0 105 yX0_countOf cX0_countOf 3 (some .int) 2 := csV_of mm_456 mm_457 mm_458 mm_34 mm_459 (by decide +kernel)
theorem cs_X0_108 : CsV RX0 108 yX0_stavesOf cX0_stavesOf 3 (some .int) 2 := csV_of mm_460 mm_461 mm_462 mm_34 mm_463 (by decide +kernel)
theorem cs_X0_111 : CsV RX0 111 yX0_isRolled cX0_isRolled 3 (some .boolean) 2 := csV_of mm_500 mm_501 mm_502 mm_34 mm_503 (by decide +kernel)
theorem cs_X0_114 : CsV RX0 114 yX0_cutStaves cX0_cutStaves 6 (some .int) 3 := csV_of mm_486 mm_487 mm_488 mm_34 mm_489 (by decide +kernel)
theorem cs_X0_118 : CsS RX0 118 yJ6_bitCount_0f7a4 cJ6_bitCount_0f7a4 1 (some .int) 1 := csS_of mm_490 mm_491 mm_41 mm_492 (by decide +kernel)
theorem cs_X0_123 : CsV RX0 123 yX0_countRolled cX0_countRolled 2 (some .int) 1 := csV_of mm_496 mm_497 mm_498 mm_34 mm_499 (by decide +kernel)
theorem cs_X0_126 : CsV RX0 126 yX0_move cX0_move 7 (some .int) 4 := csV_of mm_504 mm_505 mm_506 mm_34 mm_507 (by decide +kernel)
theorem cs_X1_25 : CsV RX1 25 yX3_takeFrom cX3_takeFrom 3 none 1 := csV_of mm_397 mm_398 mm_399 mm_32 mm_400 (by decide +kernel)
theorem cs_X2_38 : CsV RX2 38 yX0_read cX0_read 5 none 2 := csV_of mm_415 mm_416 mm_417 mm_34 mm_418 (by decide +kernel)
theorem cs_X2_42 : CsV RX2 42 yX3_settingAt cX3_settingAt 2 (some .int) 1 := csV_of mm_464 mm_284 mm_285 mm_32 mm_286 (by decide +kernel)
theorem cs_X2_46 : CsV RX2 46 yX2_lookAhead cX2_lookAhead 6 none 1 := csV_of mm_465 mm_467 mm_11 mm_33 mm_468 (by decide +kernel)
theorem cs_X2_50 : CsV RX2 50 yX2_chordAt cX2_chordAt 2 (some (.object "HandSpans$Chord")) 1 := csV_of mm_469 mm_471 mm_12 mm_33 mm_472 (by decide +kernel)
theorem cs_X2_54 : CsV RX2 54 yX2_splitAt cX2_splitAt 2 (some .int) 1 := csV_of mm_508 mm_510 mm_14 mm_33 mm_511 (by decide +kernel)
theorem cs_X2_57 : CsV RX2 57 yX2_bestSplit cX2_bestSplit 9 (some .int) 3 := csV_of mm_477 mm_479 mm_13 mm_33 mm_480 (by decide +kernel)
theorem cs_X2_61 : CsV RX2 61 yX0_isPossible cX0_isPossible 2 (some .boolean) 1 := csV_of mm_473 mm_474 mm_475 mm_34 mm_476 (by decide +kernel)
theorem cs_X2_65 : CsV RX2 65 yX0_costs cX0_costs 4 (some .int) 3 := csV_of mm_482 mm_483 mm_484 mm_34 mm_485 (by decide +kernel)
theorem cs_X2_69 : CsV RX2 69 yX0_cutStaves cX0_cutStaves 6 (some .int) 3 := csV_of mm_528 mm_487 mm_488 mm_34 mm_489 (by decide +kernel)
theorem cs_X2_72 : CsV RX2 72 yX0_move cX0_move 7 (some .int) 4 := csV_of mm_535 mm_505 mm_506 mm_34 mm_507 (by decide +kernel)
theorem cs_X2_79 : CsV RX2 79 yX2_cutStaves cX2_cutStaves 2 (some .int) 1 := csV_of mm_524 mm_526 mm_17 mm_33 mm_527 (by decide +kernel)
theorem cs_X2_84 : CsV RX2 84 yX0_stavesOf cX0_stavesOf 3 (some .int) 2 := csV_of mm_766 mm_461 mm_462 mm_34 mm_463 (by decide +kernel)
theorem cs_X2_88 : CsV RX2 88 yX0_countOf cX0_countOf 3 (some .int) 2 := csV_of mm_778 mm_457 mm_458 mm_34 mm_459 (by decide +kernel)
theorem cs_X2_97 : CsV RX2 97 yX0_isRolled cX0_isRolled 3 (some .boolean) 2 := csV_of mm_779 mm_501 mm_502 mm_34 mm_503 (by decide +kernel)
theorem cs_X2_101 : CsV RX2 101 yX2_move cX2_move 3 (some .int) 2 := csV_of mm_531 mm_533 mm_18 mm_33 mm_534 (by decide +kernel)
theorem cs_X2_106 : CsS RX2 106 yJ6_bitCount_0f7a4 cJ6_bitCount_0f7a4 1 (some .int) 1 := csS_of mm_529 mm_491 mm_41 mm_492 (by decide +kernel)
theorem cs_X2_111 : CsV RX2 111 yX2_costs cX2_costs 2 (some .int) 1 := csV_of mm_520 mm_522 mm_16 mm_33 mm_523 (by decide +kernel)
theorem cs_X2_116 : CsV RX2 116 yX2_shareOfBeat cX2_shareOfBeat 4 (some .int) 2 := csV_of mm_516 mm_518 mm_15 mm_33 mm_519 (by decide +kernel)
theorem cs_X2_119 : CsV RX2 119 yX0_countRolled cX0_countRolled 2 (some .int) 1 := csV_of mm_530 mm_497 mm_498 mm_34 mm_499 (by decide +kernel)
theorem cs_X2_125 : CsV RX2 125 yX0_countLeftOut cX0_countLeftOut 4 (some .int) 1 := csV_of mm_536 mm_537 mm_538 mm_34 mm_539 (by decide +kernel)
theorem cs_X3_35 : CsS RX3 35 yX3_isSetting cX3_isSetting 1 (some .boolean) 1 := csS_of mm_287 mm_288 mm_32 mm_289 (by decide +kernel)
theorem cs_X3_45 : CsV RX3 45 yX3_hasStaff cX3_hasStaff 2 (some .boolean) 1 := csV_of mm_264 mm_265 mm_266 mm_32 mm_267 (by decide +kernel)
theorem cs_X3_48 : CsV RX3 48 yX3_hasBeat cX3_hasBeat 2 (some .boolean) 1 := csV_of mm_268 mm_269 mm_270 mm_32 mm_271 (by decide +kernel)
theorem cs_X3_51 : CsV RX3 51 yX3_written cX3_written 3 (some .int) 2 := csV_of mm_252 mm_253 mm_254 mm_32 mm_255 (by decide +kernel)
theorem cs_X3_55 : CsS RX3 55 yX3_isPitch cX3_isPitch 1 (some .boolean) 1 := csS_of mm_298 mm_273 mm_32 mm_274 (by decide +kernel)
theorem cs_X3_58 : CsV RX3 58 yX3_countStruckOf cX3_countStruckOf 4 (some .int) 1 := csV_of mm_294 mm_295 mm_296 mm_32 mm_297 (by decide +kernel)
theorem cs_X3_62 : CsV RX3 62 yX3_hasCell cX3_hasCell 3 (some .boolean) 2 := csV_of mm_260 mm_261 mm_262 mm_32 mm_263 (by decide +kernel)
theorem cs_X3_66 : CsV RX3 66 yX3_put cX3_put 4 none 3 := csV_of mm_687 mm_257 mm_258 mm_32 mm_259 (by decide +kernel)
theorem cs_X3_70 : CsV RX3 70 yX3_silenceStaff cX3_silenceStaff 3 none 1 := csV_of mm_725 mm_726 mm_727 mm_32 mm_728 (by decide +kernel)
theorem cs_X3_74 : CsV RX3 74 yX3_allowsHold cX3_allowsHold 3 (some .boolean) 2 := csV_of mm_686 mm_249 mm_250 mm_32 mm_251 (by decide +kernel)
theorem cs_X4_19 : CsV RX4 19 yX4_isFull cX4_isFull 1 (some .boolean) 0 := csV_of mm_612 mm_605 mm_606 mm_31 mm_607 (by decide +kernel)
theorem cs_X4_23 : CsV RX4 23 yX4_signAt cX4_signAt 2 (some .int) 1 := csV_of mm_235 mm_237 mm_0 mm_31 mm_238 (by decide +kernel)
theorem cs_X4_27 : CsV RX4 27 yX4_digitAt cX4_digitAt 3 (some .int) 1 := csV_of mm_239 mm_241 mm_1 mm_31 mm_242 (by decide +kernel)
theorem cs_X4_30 : CsV RX4 30 yX3_becomeRests cX3_becomeRests 4 none 2 := csV_of mm_243 mm_76 mm_77 mm_32 mm_78 (by decide +kernel)
theorem cs_X4_39 : CsV RX4 39 yX4_readCell cX4_readCell 8 (some .boolean) 3 := csV_of mm_244 mm_246 mm_2 mm_31 mm_247 (by decide +kernel)
theorem cs_X4_43 : CsV RX4 43 yX3_allowsHold cX3_allowsHold 3 (some .boolean) 2 := csV_of mm_248 mm_249 mm_250 mm_32 mm_251 (by decide +kernel)
theorem cs_X4_47 : CsV RX4 47 yX3_put cX3_put 4 none 3 := csV_of mm_256 mm_257 mm_258 mm_32 mm_259 (by decide +kernel)
theorem cs_X4_51 : CsS RX4 51 yX3_isPitch cX3_isPitch 1 (some .boolean) 1 := csS_of mm_272 mm_273 mm_32 mm_274 (by decide +kernel)
theorem cs_X5_51 : CsV RX5 51 yX4_isFull cX4_isFull 1 (some .boolean) 0 := csV_of mm_604 mm_605 mm_606 mm_31 mm_607 (by decide +kernel)
theorem cs_X5_58 : CsV RX5 58 yX4_add cX4_add 2 (some .int) 1 := csV_of mm_608 mm_609 mm_610 mm_31 mm_611 (by decide +kernel)
theorem cs_X5_62 : CsV RX5 62 yX4_empty cX4_empty 2 (some .int) 0 := csV_of mm_590 mm_591 mm_592 mm_31 mm_593 (by decide +kernel)
theorem cs_X5_66 : CsV RX5 66 yX4_readInto cX4_readInto 8 (some .int) 1 := csV_of mm_231 mm_232 mm_233 mm_31 mm_234 (by decide +kernel)
theorem cs_X5_70 : CsV RX5 70 yX3_resetSettings cX3_resetSettings 2 none 0 := csV_of mm_620 mm_80 mm_81 mm_32 mm_82 (by decide +kernel)
theorem cs_X5_73 : CsV RX5 73 yX3_takeFrom cX3_takeFrom 3 none 1 := csV_of mm_566 mm_398 mm_399 mm_32 mm_400 (by decide +kernel)
theorem cs_X5_77 : CsV RX5 77 yX1_forget cX1_forget 1 none 0 := csV_of mm_574 mm_575 mm_576 mm_35 mm_577 (by decide +kernel)
theorem cs_X5_84 : CsV RX5 84 yX3_settingAt cX3_settingAt 2 (some .int) 1 := csV_of mm_283 mm_284 mm_285 mm_32 mm_286 (by decide +kernel)
theorem cs_X5_91 : CsV RX5 91 yX3_countStruck cX3_countStruck 3 (some .int) 0 := csV_of mm_290 mm_291 mm_292 mm_32 mm_293 (by decide +kernel)
theorem cs_X5_94 : CsV RX5 94 yX3_countHolds cX3_countHolds 4 (some .int) 0 := csV_of mm_299 mm_300 mm_301 mm_32 mm_302 (by decide +kernel)
theorem cs_X5_97 : CsV RX5 97 yX5_requireCell cX5_requireCell 3 none 2 := csV_of mm_631 mm_633 mm_19 mm_30 mm_634 (by decide +kernel)
theorem cs_X5_101 : CsV RX5 101 yX3_sounding cX3_sounding 5 (some .int) 2 := csV_of mm_645 mm_429 mm_430 mm_32 mm_431 (by decide +kernel)
theorem cs_X5_105 : CsV RX5 105 yX3_written cX3_written 3 (some .int) 2 := csV_of mm_646 mm_253 mm_254 mm_32 mm_255 (by decide +kernel)
theorem cs_X5_108 : CsS RX5 108 yX3_allowsSetting cX3_allowsSetting 2 (some .boolean) 2 := csS_of mm_657 mm_658 mm_32 mm_659 (by decide +kernel)
theorem cs_X5_112 : CsV RX5 112 yX1_remember cX1_remember 2 none 1 := csV_of mm_664 mm_665 mm_666 mm_35 mm_667 (by decide +kernel)
theorem cs_X5_115 : CsV RX5 115 yX3_changeSetting cX3_changeSetting 3 none 2 := csV_of mm_668 mm_669 mm_670 mm_32 mm_671 (by decide +kernel)
theorem cs_X5_118 : CsS RX5 118 yX3_isPitch cX3_isPitch 1 (some .boolean) 1 := csS_of mm_679 mm_273 mm_32 mm_274 (by decide +kernel)
theorem cs_X5_122 : CsV RX5 122 yX3_allowsHold cX3_allowsHold 3 (some .boolean) 2 := csV_of mm_680 mm_249 mm_250 mm_32 mm_251 (by decide +kernel)
theorem cs_X5_125 : CsV RX5 125 yX3_put cX3_put 4 none 3 := csV_of mm_681 mm_257 mm_258 mm_32 mm_259 (by decide +kernel)
theorem cs_X5_129 : CsV RX5 129 yX3_dropLooseHolds cX3_dropLooseHolds 3 none 0 := csV_of mm_682 mm_683 mm_684 mm_32 mm_685 (by decide +kernel)
theorem cs_X5_132 : CsV RX5 132 yX5_requireStaff cX5_requireStaff 2 none 1 := csV_of mm_635 mm_637 mm_20 mm_30 mm_638 (by decide +kernel)
theorem cs_X5_136 : CsV RX5 136 yX3_allowsMoving cX3_allowsMoving 5 (some .boolean) 2 := csV_of mm_695 mm_696 mm_697 mm_32 mm_698 (by decide +kernel)
theorem cs_X5_139 : CsV RX5 139 yX3_moveStaff cX3_moveStaff 5 (some .int) 2 := csV_of mm_699 mm_700 mm_701 mm_32 mm_702 (by decide +kernel)
theorem cs_X5_142 : CsV RX5 142 yX3_swapStaves cX3_swapStaves 7 (some .int) 2 := csV_of mm_710 mm_711 mm_712 mm_32 mm_713 (by decide +kernel)
theorem cs_X5_145 : CsV RX5 145 yX3_addStaff cX3_addStaff 1 none 0 := csV_of mm_721 mm_722 mm_723 mm_32 mm_724 (by decide +kernel)
theorem cs_X5_148 : CsV RX5 148 yX3_dropStaff cX3_dropStaff 1 none 0 := csV_of mm_729 mm_730 mm_731 mm_32 mm_732 (by decide +kernel)
theorem cs_X5_154 : CsV RX5 154 yX3_openBeat cX3_openBeat 4 none 1 := csV_of mm_740 mm_741 mm_742 mm_32 mm_743 (by decide +kernel)
theorem cs_X5_157 : CsV RX5 157 yX5_requireBeat cX5_requireBeat 2 none 1 := csV_of mm_640 mm_642 mm_21 mm_30 mm_643 (by decide +kernel)
theorem cs_X5_160 : CsV RX5 160 yX3_closeBeat cX3_closeBeat 4 none 1 := csV_of mm_751 mm_752 mm_753 mm_32 mm_754 (by decide +kernel)
theorem cs_X5_163 : CsV RX5 163 yX1_isEmpty cX1_isEmpty 1 (some .boolean) 0 := csV_of mm_374 mm_375 mm_376 mm_35 mm_377 (by decide +kernel)
theorem cs_X5_166 : CsV RX5 166 yX1_takeBack cX1_takeBack 2 (some .int) 1 := csV_of mm_393 mm_394 mm_395 mm_35 mm_396 (by decide +kernel)
theorem cs_X5_169 : CsS RX5 169 yX5_requireUpTo cX5_requireUpTo 2 none 2 := csS_of mm_408 mm_409 mm_30 mm_410 (by decide +kernel)
theorem cs_X5_172 : CsV RX5 172 yX2_make cX2_make 3 none 1 := csV_of mm_411 mm_412 mm_413 mm_33 mm_414 (by decide +kernel)
theorem cs_X5_175 : CsV RX5 175 yX2_numberOfNote cX2_numberOfNote 8 (some .int) 3 := csV_of mm_762 mm_763 mm_764 mm_33 mm_765 (by decide +kernel)
theorem cs_X5_179 : CsV RX5 179 yX2_numberOfHand cX2_numberOfHand 6 (some .int) 3 := csV_of mm_774 mm_775 mm_776 mm_33 mm_777 (by decide +kernel)
theorem cs_X5_182 : CsV RX5 182 yX2_numberOfBeat cX2_numberOfBeat 4 (some .int) 2 := csV_of mm_787 mm_788 mm_789 mm_33 mm_790 (by decide +kernel)
theorem cs_X5_185 : CsV RX5 185 yX2_numberOfWhole cX2_numberOfWhole 4 (some .int) 1 := csV_of mm_512 mm_513 mm_514 mm_33 mm_515 (by decide +kernel)
theorem cs_X5_188 : CsV RX5 188 yX5_numberOfTrial cX5_numberOfTrial 2 (some .int) 1 := csV_of mm_798 mm_800 mm_22 mm_30 mm_801 (by decide +kernel)
theorem cs_X5_192 : CsV RX5 192 yX3_silenceStaff cX3_silenceStaff 3 none 1 := csV_of mm_873 mm_726 mm_727 mm_32 mm_728 (by decide +kernel)
theorem cs_X5_195 : CsS RX5 195 yX5_groupFromEnd cX5_groupFromEnd 6 (some .long) 2 := csS_of mm_817 mm_818 mm_30 mm_819 (by decide +kernel)
theorem cs_X5_201 : CsV RX5 201 yX5_succeeds cX5_succeeds 7 (some .boolean) 1 := csV_of mm_821 mm_823 mm_23 mm_30 mm_824 (by decide +kernel)
theorem cs_X5_208 : CsV RX5 208 yX5_simulateRound cX5_simulateRound 5 none 1 := csV_of mm_852 mm_854 mm_28 mm_30 mm_855 (by decide +kernel)
theorem cs_X5_211 : CsS RX5 211 yX5_requireSlot cX5_requireSlot 1 none 1 := csS_of mm_548 mm_549 mm_30 mm_550 (by decide +kernel)
theorem cs_X5_214 : CsV RX5 214 yX3_hasStaff cX3_hasStaff 2 (some .boolean) 1 := csV_of mm_639 mm_265 mm_266 mm_32 mm_267 (by decide +kernel)
theorem cs_X5_217 : CsV RX5 217 yX3_hasBeat cX3_hasBeat 2 (some .boolean) 1 := csV_of mm_644 mm_269 mm_270 mm_32 mm_271 (by decide +kernel)
theorem cs_X5_220 : CsV RX5 220 yX5_triedSetting cX5_triedSetting 3 (some .boolean) 2 := csV_of mm_825 mm_827 mm_24 mm_30 mm_828 (by decide +kernel)
theorem cs_X5_223 : CsV RX5 223 yX5_triedCell cX5_triedCell 4 (some .boolean) 3 := csV_of mm_829 mm_831 mm_25 mm_30 mm_832 (by decide +kernel)
theorem cs_X5_227 : CsV RX5 227 yX5_triedExchange cX5_triedExchange 3 (some .boolean) 2 := csV_of mm_834 mm_836 mm_26 mm_30 mm_837 (by decide +kernel)
theorem cs_X5_230 : CsV RX5 230 yX5_triedRemoval cX5_triedRemoval 2 (some .boolean) 1 := csV_of mm_838 mm_840 mm_27 mm_30 mm_841 (by decide +kernel)
theorem cs_X5_233 : CsV RX5 233 yX3_hasCell cX3_hasCell 3 (some .boolean) 2 := csV_of mm_833 mm_261 mm_262 mm_32 mm_263 (by decide +kernel)
theorem ma_X0_82 : MaK RX0 82 := ⟨by decide +kernel, by decide +kernel, by decide +kernel, by decide +kernel⟩
