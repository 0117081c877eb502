section LK
variable {X : XX} {G : GG} {Z : ZZ} {M : Mem} {k n : Nat} {Q : State → Prop} {pc : Nat} {L : List (Nat × Value)} {rest : List Value} {own : String} {cc : ByteArray} {ret : Option FieldType} {d mc ms nL : Nat}
theorem kw_J6_265 : Cond.constant RJ6 265 (1431655765) ∈ TW := (tw_in mm_423 rfl)
theorem kw_J6_266 : Cond.constant RJ6 266 (858993459) ∈ TW := (tw_in mm_424 rfl)
theorem kw_J6_267 : Cond.constant RJ6 267 (252645135) ∈ TW := (tw_in mm_425 rfl)
theorem kw_X2_68 : Cond.constant RX2 68 (1000000) ∈ TW := (tw_in mm_411 rfl)
theorem kw_X5_191 : Cond.constant RX5 191 (1000000) ∈ TW := (tw_in mm_474 rfl)
theorem kw_X5_199 : Cond.constantLong RX5 199 (100000) ∈ TW := (tw_in mm_831 rfl)
theorem kw_X5_204 : Cond.constantLong RX5 204 (6364136223846793005) ∈ TW := (tw_in mm_860 rfl)
theorem kw_X5_206 : Cond.constantLong RX5 206 (1442695040888963407) ∈ TW := (tw_in mm_861 rfl)
theorem kw_X6_64 : Cond.constantLong RX6 64 (5) ∈ TW := (tw_in mm_1041 rfl)
theorem kw_X6_164 : Cond.constantLong RX6 164 (255) ∈ TW := (tw_in mm_958 rfl)
theorem kw_X6_199 : Cond.constantLong RX6 199 (60) ∈ TW := (tw_in mm_1012 rfl)
theorem kw_X6_201 : Cond.constantLong RX6 201 (9) ∈ TW := (tw_in mm_1008 rfl)
theorem kw_X6_226 : Cond.constantLong RX6 226 (-1) ∈ TW := (tw_in mm_1050 rfl)
theorem kw_X6_235 : Cond.constantLong RX6 235 (-60) ∈ TW := (tw_in mm_1064 rfl)
theorem kw_X6_250 : Cond.constantLong RX6 250 (3) ∈ TW := (tw_in mm_1101 rfl)
theorem kw_X6_252 : Cond.constantLong RX6 252 (4) ∈ TW := (tw_in mm_1201 rfl)
theorem kw_X6_254 : Cond.constantLong RX6 254 (7) ∈ TW := (tw_in mm_1210 rfl)
theorem kw_X6_263 : Cond.constantLong RX6 263 (100000) ∈ TW := (tw_in mm_1235 rfl)
theorem kw_X6_265 : Cond.constantLong RX6 265 (10000000000) ∈ TW := (tw_in mm_1236 rfl)
theorem kw_X6_267 : Cond.constantLong RX6 267 (1000000000000000) ∈ TW := (tw_in mm_1237 rfl)
theorem kw_X6_273 : Cond.constantLong RX6 273 (40) ∈ TW := (tw_in mm_1250 rfl)
theorem kw_X6_275 : Cond.constantLong RX6 275 (6364136223846793005) ∈ TW := (tw_in mm_1251 rfl)
theorem kw_X6_277 : Cond.constantLong RX6 277 (1442695040888963407) ∈ TW := (tw_in mm_1252 rfl)
theorem kw_X3_32 : Cond.fieldLinkNest RX3 32 "HandSpans" "SETTING_AT_FIRST" "[I" "HandSpans" ∈ TW := (tw_in mm_119 rfl)
theorem kw_X3_39 : Cond.fieldLinkNest RX3 39 "HandSpans" "LEAST_SETTING" "[I" "HandSpans" ∈ TW := (tw_in mm_658 rfl)
theorem kw_X3_42 : Cond.fieldLinkNest RX3 42 "HandSpans" "MOST_SETTING" "[I" "HandSpans" ∈ TW := (tw_in mm_660 rfl)
theorem gf_X0_9 {i : Nat} {F : Nat → Option (Option Nat)} {v : Value} (hC : Cx X G RX0 cc ret d mc ms nL) (hi : At Z i (.inl (0, 14, F))) (hv : fv Z.1 (M i) F 0 = v) (hdg : decode cc pc = .ok (.getfield 9, 3)) (kk : V X G Z M k n Q (pc + 3) L (v :: rest)) : V X G Z M k n Q pc L (.ref (Z.1 i) :: rest) :=
  r_get tw_wsX0 rfl 0 (by decide) rfl (tw_in mm_154 rfl) hC hi hv hdg kk
theorem gf_X0_15 {i : Nat} {F : Nat → Option (Option Nat)} {v : Value} (hC : Cx X G RX0 cc ret d mc ms nL) (hi : At Z i (.inl (0, 14, F))) (hv : fv Z.1 (M i) F 4 = v) (hdg : decode cc pc = .ok (.getfield 15, 3)) (kk : V X G Z M k n Q (pc + 3) L (v :: rest)) : V X G Z M k n Q pc L (.ref (Z.1 i) :: rest) :=
  r_get tw_wsX0 rfl 4 (by decide) rfl (tw_in mm_158 rfl) hC hi hv hdg kk
theorem gf_X0_18 {i : Nat} {F : Nat → Option (Option Nat)} {v : Value} (hC : Cx X G RX0 cc ret d mc ms nL) (hi : At Z i (.inl (0, 14, F))) (hv : fv Z.1 (M i) F 5 = v) (hdg : decode cc pc = .ok (.getfield 18, 3)) (kk : V X G Z M k n Q (pc + 3) L (v :: rest)) : V X G Z M k n Q pc L (.ref (Z.1 i) :: rest) :=
  r_get tw_wsX0 rfl 5 (by decide) rfl (tw_in mm_159 rfl) hC hi hv hdg kk
theorem gf_X0_21 {i : Nat} {F : Nat → Option (Option Nat)} {v : Value} (hC : Cx X G RX0 cc ret d mc ms nL) (hi : At Z i (.inl (0, 14, F))) (hv : fv Z.1 (M i) F 8 = v) (hdg : decode cc pc = .ok (.getfield 21, 3)) (kk : V X G Z M k n Q (pc + 3) L (v :: rest)) : V X G Z M k n Q pc L (.ref (Z.1 i) :: rest) :=
  r_get tw_wsX0 rfl 8 (by decide) rfl (tw_in mm_165 rfl) hC hi hv hdg kk
theorem gf_X0_24 {i : Nat} {F : Nat → Option (Option Nat)} {v : Value} (hC : Cx X G RX0 cc ret d mc ms nL) (hi : At Z i (.inl (0, 14, F))) (hv : fv Z.1 (M i) F 11 = v) (hdg : decode cc pc = .ok (.getfield 24, 3)) (kk : V X G Z M k n Q (pc + 3) L (v :: rest)) : V X G Z M k n Q pc L (.ref (Z.1 i) :: rest) :=
  r_get tw_wsX0 rfl 11 (by decide) rfl (tw_in mm_170 rfl) hC hi hv hdg kk
theorem gf_X0_29 {i : Nat} {F : Nat → Option (Option Nat)} {v : Value} (hC : Cx X G RX0 cc ret d mc ms nL) (hi : At Z i (.inl (0, 14, F))) (hv : fv Z.1 (M i) F 12 = v) (hdg : decode cc pc = .ok (.getfield 29, 3)) (kk : V X G Z M k n Q (pc + 3) L (v :: rest)) : V X G Z M k n Q pc L (.ref (Z.1 i) :: rest) :=
  r_get tw_wsX0 rfl 12 (by decide) rfl (tw_in mm_171 rfl) hC hi hv hdg kk
theorem gf_X0_32 {i : Nat} {F : Nat → Option (Option Nat)} {v : Value} (hC : Cx X G RX0 cc ret d mc ms nL) (hi : At Z i (.inl (0, 14, F))) (hv : fv Z.1 (M i) F 13 = v) (hdg : decode cc pc = .ok (.getfield 32, 3)) (kk : V X G Z M k n Q (pc + 3) L (v :: rest)) : V X G Z M k n Q pc L (.ref (Z.1 i) :: rest) :=
  r_get tw_wsX0 rfl 13 (by decide) rfl (tw_in mm_173 rfl) hC hi hv hdg kk
theorem gf_X0_43 {i : Nat} {F : Nat → Option (Option Nat)} {v : Value} (hC : Cx X G RX0 cc ret d mc ms nL) (hi : At Z i (.inl (3, 4, F))) (hv : fv Z.1 (M i) F 2 = v) (hdg : decode cc pc = .ok (.getfield 43, 3)) (kk : V X G Z M k n Q (pc + 3) L (v :: rest)) : V X G Z M k n Q pc L (.ref (Z.1 i) :: rest) :=
  r_getN tw_wsX3 rfl 2 (by decide) rfl (tw_in mm_124 rfl) hC hi hv hdg kk
theorem gf_X0_56 {i : Nat} {F : Nat → Option (Option Nat)} {v : Value} (hC : Cx X G RX0 cc ret d mc ms nL) (hi : At Z i (.inl (0, 14, F))) (hv : fv Z.1 (M i) F 10 = v) (hdg : decode cc pc = .ok (.getfield 56, 3)) (kk : V X G Z M k n Q (pc + 3) L (v :: rest)) : V X G Z M k n Q pc L (.ref (Z.1 i) :: rest) :=
  r_get tw_wsX0 rfl 10 (by decide) rfl (tw_in mm_168 rfl) hC hi hv hdg kk
theorem gf_X0_63 {i : Nat} {F : Nat → Option (Option Nat)} {v : Value} (hC : Cx X G RX0 cc ret d mc ms nL) (hi : At Z i (.inl (0, 14, F))) (hv : fv Z.1 (M i) F 1 = v) (hdg : decode cc pc = .ok (.getfield 63, 3)) (kk : V X G Z M k n Q (pc + 3) L (v :: rest)) : V X G Z M k n Q pc L (.ref (Z.1 i) :: rest) :=
  r_get tw_wsX0 rfl 1 (by decide) rfl (tw_in mm_155 rfl) hC hi hv hdg kk
theorem gf_X0_66 {i : Nat} {F : Nat → Option (Option Nat)} {v : Value} (hC : Cx X G RX0 cc ret d mc ms nL) (hi : At Z i (.inl (0, 14, F))) (hv : fv Z.1 (M i) F 2 = v) (hdg : decode cc pc = .ok (.getfield 66, 3)) (kk : V X G Z M k n Q (pc + 3) L (v :: rest)) : V X G Z M k n Q pc L (.ref (Z.1 i) :: rest) :=
  r_get tw_wsX0 rfl 2 (by decide) rfl (tw_in mm_156 rfl) hC hi hv hdg kk
theorem gf_X0_69 {i : Nat} {F : Nat → Option (Option Nat)} {v : Value} (hC : Cx X G RX0 cc ret d mc ms nL) (hi : At Z i (.inl (0, 14, F))) (hv : fv Z.1 (M i) F 3 = v) (hdg : decode cc pc = .ok (.getfield 69, 3)) (kk : V X G Z M k n Q (pc + 3) L (v :: rest)) : V X G Z M k n Q pc L (.ref (Z.1 i) :: rest) :=
  r_get tw_wsX0 rfl 3 (by decide) rfl (tw_in mm_157 rfl) hC hi hv hdg kk
theorem gf_X0_73 {i : Nat} {F : Nat → Option (Option Nat)} {v : Value} (hC : Cx X G RX0 cc ret d mc ms nL) (hi : At Z i (.inl (0, 14, F))) (hv : fv Z.1 (M i) F 6 = v) (hdg : decode cc pc = .ok (.getfield 73, 3)) (kk : V X G Z M k n Q (pc + 3) L (v :: rest)) : V X G Z M k n Q pc L (.ref (Z.1 i) :: rest) :=
  r_get tw_wsX0 rfl 6 (by decide) rfl (tw_in mm_161 rfl) hC hi hv hdg kk
theorem gf_X0_87 {i : Nat} {F : Nat → Option (Option Nat)} {v : Value} (hC : Cx X G RX0 cc ret d mc ms nL) (hi : At Z i (.inl (0, 14, F))) (hv : fv Z.1 (M i) F 9 = v) (hdg : decode cc pc = .ok (.getfield 87, 3)) (kk : V X G Z M k n Q (pc + 3) L (v :: rest)) : V X G Z M k n Q pc L (.ref (Z.1 i) :: rest) :=
  r_get tw_wsX0 rfl 9 (by decide) rfl (tw_in mm_166 rfl) hC hi hv hdg kk
theorem gf_X0_94 {i : Nat} {F : Nat → Option (Option Nat)} {v : Value} (hC : Cx X G RX0 cc ret d mc ms nL) (hi : At Z i (.inl (0, 14, F))) (hv : fv Z.1 (M i) F 7 = v) (hdg : decode cc pc = .ok (.getfield 94, 3)) (kk : V X G Z M k n Q (pc + 3) L (v :: rest)) : V X G Z M k n Q pc L (.ref (Z.1 i) :: rest) :=
  r_get tw_wsX0 rfl 7 (by decide) rfl (tw_in mm_163 rfl) hC hi hv hdg kk
theorem gf_X1_11 {i : Nat} {F : Nat → Option (Option Nat)} {v : Value} (hC : Cx X G RX1 cc ret d mc ms nL) (hi : At Z i (.inl (1, 3, F))) (hv : fv Z.1 (M i) F 0 = v) (hdg : decode cc pc = .ok (.getfield 11, 3)) (kk : V X G Z M k n Q (pc + 3) L (v :: rest)) : V X G Z M k n Q pc L (.ref (Z.1 i) :: rest) :=
  r_get tw_wsX1 rfl 0 (by decide) rfl (tw_in mm_230 rfl) hC hi hv hdg kk
theorem gf_X1_18 {i : Nat} {F : Nat → Option (Option Nat)} {v : Value} (hC : Cx X G RX1 cc ret d mc ms nL) (hi : At Z i (.inl (1, 3, F))) (hv : fv Z.1 (M i) F 2 = v) (hdg : decode cc pc = .ok (.getfield 18, 3)) (kk : V X G Z M k n Q (pc + 3) L (v :: rest)) : V X G Z M k n Q pc L (.ref (Z.1 i) :: rest) :=
  r_get tw_wsX1 rfl 2 (by decide) rfl (tw_in mm_232 rfl) hC hi hv hdg kk
theorem gf_X1_22 {i : Nat} {F : Nat → Option (Option Nat)} {v : Value} (hC : Cx X G RX1 cc ret d mc ms nL) (hi : At Z i (.inl (1, 3, F))) (hv : fv Z.1 (M i) F 1 = v) (hdg : decode cc pc = .ok (.getfield 22, 3)) (kk : V X G Z M k n Q (pc + 3) L (v :: rest)) : V X G Z M k n Q pc L (.ref (Z.1 i) :: rest) :=
  r_get tw_wsX1 rfl 1 (by decide) rfl (tw_in mm_231 rfl) hC hi hv hdg kk
theorem gf_X2_11 {i : Nat} {F : Nat → Option (Option Nat)} {v : Value} (hC : Cx X G RX2 cc ret d mc ms nL) (hi : At Z i (.inl (2, 5, F))) (hv : fv Z.1 (M i) F 0 = v) (hdg : decode cc pc = .ok (.getfield 11, 3)) (kk : V X G Z M k n Q (pc + 3) L (v :: rest)) : V X G Z M k n Q pc L (.ref (Z.1 i) :: rest) :=
  r_get tw_wsX2 rfl 0 (by decide) rfl (tw_in mm_205 rfl) hC hi hv hdg kk
theorem gf_X2_18 {i : Nat} {F : Nat → Option (Option Nat)} {v : Value} (hC : Cx X G RX2 cc ret d mc ms nL) (hi : At Z i (.inl (2, 5, F))) (hv : fv Z.1 (M i) F 1 = v) (hdg : decode cc pc = .ok (.getfield 18, 3)) (kk : V X G Z M k n Q (pc + 3) L (v :: rest)) : V X G Z M k n Q pc L (.ref (Z.1 i) :: rest) :=
  r_get tw_wsX2 rfl 1 (by decide) rfl (tw_in mm_206 rfl) hC hi hv hdg kk
theorem gf_X2_22 {i : Nat} {F : Nat → Option (Option Nat)} {v : Value} (hC : Cx X G RX2 cc ret d mc ms nL) (hi : At Z i (.inl (2, 5, F))) (hv : fv Z.1 (M i) F 2 = v) (hdg : decode cc pc = .ok (.getfield 22, 3)) (kk : V X G Z M k n Q (pc + 3) L (v :: rest)) : V X G Z M k n Q pc L (.ref (Z.1 i) :: rest) :=
  r_get tw_wsX2 rfl 2 (by decide) rfl (tw_in mm_207 rfl) hC hi hv hdg kk
theorem gf_X2_28 {i : Nat} {F : Nat → Option (Option Nat)} {v : Value} (hC : Cx X G RX2 cc ret d mc ms nL) (hi : At Z i (.inl (2, 5, F))) (hv : fv Z.1 (M i) F 3 = v) (hdg : decode cc pc = .ok (.getfield 28, 3)) (kk : V X G Z M k n Q (pc + 3) L (v :: rest)) : V X G Z M k n Q pc L (.ref (Z.1 i) :: rest) :=
  r_get tw_wsX2 rfl 3 (by decide) rfl (tw_in mm_208 rfl) hC hi hv hdg kk
theorem gf_X2_31 {i : Nat} {F : Nat → Option (Option Nat)} {v : Value} (hC : Cx X G RX2 cc ret d mc ms nL) (hi : At Z i (.inl (3, 4, F))) (hv : fv Z.1 (M i) F 3 = v) (hdg : decode cc pc = .ok (.getfield 31, 3)) (kk : V X G Z M k n Q (pc + 3) L (v :: rest)) : V X G Z M k n Q pc L (.ref (Z.1 i) :: rest) :=
  r_getN tw_wsX3 rfl 3 (by decide) rfl (tw_in mm_126 rfl) hC hi hv hdg kk
theorem gf_X2_37 {i : Nat} {F : Nat → Option (Option Nat)} {v : Value} (hC : Cx X G RX2 cc ret d mc ms nL) (hi : At Z i (.inl (2, 5, F))) (hv : fv Z.1 (M i) F 4 = v) (hdg : decode cc pc = .ok (.getfield 37, 3)) (kk : V X G Z M k n Q (pc + 3) L (v :: rest)) : V X G Z M k n Q pc L (.ref (Z.1 i) :: rest) :=
  r_get tw_wsX2 rfl 4 (by decide) rfl (tw_in mm_209 rfl) hC hi hv hdg kk
theorem gf_X2_76 {i : Nat} {F : Nat → Option (Option Nat)} {v : Value} (hC : Cx X G RX2 cc ret d mc ms nL) (hi : At Z i (.inl (0, 14, F))) (hv : fv Z.1 (M i) F 5 = v) (hdg : decode cc pc = .ok (.getfield 76, 3)) (kk : V X G Z M k n Q (pc + 3) L (v :: rest)) : V X G Z M k n Q pc L (.ref (Z.1 i) :: rest) :=
  r_getN tw_wsX0 rfl 5 (by decide) rfl (tw_in mm_160 rfl) hC hi hv hdg kk
theorem gf_X2_81 {i : Nat} {F : Nat → Option (Option Nat)} {v : Value} (hC : Cx X G RX2 cc ret d mc ms nL) (hi : At Z i (.inl (0, 14, F))) (hv : fv Z.1 (M i) F 6 = v) (hdg : decode cc pc = .ok (.getfield 81, 3)) (kk : V X G Z M k n Q (pc + 3) L (v :: rest)) : V X G Z M k n Q pc L (.ref (Z.1 i) :: rest) :=
  r_getN tw_wsX0 rfl 6 (by decide) rfl (tw_in mm_162 rfl) hC hi hv hdg kk
theorem gf_X2_91 {i : Nat} {F : Nat → Option (Option Nat)} {v : Value} (hC : Cx X G RX2 cc ret d mc ms nL) (hi : At Z i (.inl (0, 14, F))) (hv : fv Z.1 (M i) F 12 = v) (hdg : decode cc pc = .ok (.getfield 91, 3)) (kk : V X G Z M k n Q (pc + 3) L (v :: rest)) : V X G Z M k n Q pc L (.ref (Z.1 i) :: rest) :=
  r_getN tw_wsX0 rfl 12 (by decide) rfl (tw_in mm_172 rfl) hC hi hv hdg kk
theorem gf_X2_94 {i : Nat} {F : Nat → Option (Option Nat)} {v : Value} (hC : Cx X G RX2 cc ret d mc ms nL) (hi : At Z i (.inl (0, 14, F))) (hv : fv Z.1 (M i) F 13 = v) (hdg : decode cc pc = .ok (.getfield 94, 3)) (kk : V X G Z M k n Q (pc + 3) L (v :: rest)) : V X G Z M k n Q pc L (.ref (Z.1 i) :: rest) :=
  r_getN tw_wsX0 rfl 13 (by decide) rfl (tw_in mm_174 rfl) hC hi hv hdg kk
theorem gf_X2_103 {i : Nat} {F : Nat → Option (Option Nat)} {v : Value} (hC : Cx X G RX2 cc ret d mc ms nL) (hi : At Z i (.inl (0, 14, F))) (hv : fv Z.1 (M i) F 10 = v) (hdg : decode cc pc = .ok (.getfield 103, 3)) (kk : V X G Z M k n Q (pc + 3) L (v :: rest)) : V X G Z M k n Q pc L (.ref (Z.1 i) :: rest) :=
  r_getN tw_wsX0 rfl 10 (by decide) rfl (tw_in mm_169 rfl) hC hi hv hdg kk
theorem gf_X2_113 {i : Nat} {F : Nat → Option (Option Nat)} {v : Value} (hC : Cx X G RX2 cc ret d mc ms nL) (hi : At Z i (.inl (0, 14, F))) (hv : fv Z.1 (M i) F 9 = v) (hdg : decode cc pc = .ok (.getfield 113, 3)) (kk : V X G Z M k n Q (pc + 3) L (v :: rest)) : V X G Z M k n Q pc L (.ref (Z.1 i) :: rest) :=
  r_getN tw_wsX0 rfl 9 (by decide) rfl (tw_in mm_167 rfl) hC hi hv hdg kk
theorem gf_X2_122 {i : Nat} {F : Nat → Option (Option Nat)} {v : Value} (hC : Cx X G RX2 cc ret d mc ms nL) (hi : At Z i (.inl (0, 14, F))) (hv : fv Z.1 (M i) F 7 = v) (hdg : decode cc pc = .ok (.getfield 122, 3)) (kk : V X G Z M k n Q (pc + 3) L (v :: rest)) : V X G Z M k n Q pc L (.ref (Z.1 i) :: rest) :=
  r_getN tw_wsX0 rfl 7 (by decide) rfl (tw_in mm_164 rfl) hC hi hv hdg kk
theorem gf_X3_9 {i : Nat} {F : Nat → Option (Option Nat)} {v : Value} (hC : Cx X G RX3 cc ret d mc ms nL) (hi : At Z i (.inl (3, 4, F))) (hv : fv Z.1 (M i) F 0 = v) (hdg : decode cc pc = .ok (.getfield 9, 3)) (kk : V X G Z M k n Q (pc + 3) L (v :: rest)) : V X G Z M k n Q pc L (.ref (Z.1 i) :: rest) :=
  r_get tw_wsX3 rfl 0 (by decide) rfl (tw_in mm_121 rfl) hC hi hv hdg kk
theorem gf_X3_15 {i : Nat} {F : Nat → Option (Option Nat)} {v : Value} (hC : Cx X G RX3 cc ret d mc ms nL) (hi : At Z i (.inl (3, 4, F))) (hv : fv Z.1 (M i) F 1 = v) (hdg : decode cc pc = .ok (.getfield 15, 3)) (kk : V X G Z M k n Q (pc + 3) L (v :: rest)) : V X G Z M k n Q pc L (.ref (Z.1 i) :: rest) :=
  r_get tw_wsX3 rfl 1 (by decide) rfl (tw_in mm_122 rfl) hC hi hv hdg kk
theorem gf_X3_25 {i : Nat} {F : Nat → Option (Option Nat)} {v : Value} (hC : Cx X G RX3 cc ret d mc ms nL) (hi : At Z i (.inl (3, 4, F))) (hv : fv Z.1 (M i) F 2 = v) (hdg : decode cc pc = .ok (.getfield 25, 3)) (kk : V X G Z M k n Q (pc + 3) L (v :: rest)) : V X G Z M k n Q pc L (.ref (Z.1 i) :: rest) :=
  r_get tw_wsX3 rfl 2 (by decide) rfl (tw_in mm_123 rfl) hC hi hv hdg kk
theorem gf_X3_29 {i : Nat} {F : Nat → Option (Option Nat)} {v : Value} (hC : Cx X G RX3 cc ret d mc ms nL) (hi : At Z i (.inl (3, 4, F))) (hv : fv Z.1 (M i) F 3 = v) (hdg : decode cc pc = .ok (.getfield 29, 3)) (kk : V X G Z M k n Q (pc + 3) L (v :: rest)) : V X G Z M k n Q pc L (.ref (Z.1 i) :: rest) :=
  r_get tw_wsX3 rfl 3 (by decide) rfl (tw_in mm_127 rfl) hC hi hv hdg kk
theorem gf_X4_9 {i : Nat} {F : Nat → Option (Option Nat)} {v : Value} (hC : Cx X G RX4 cc ret d mc ms nL) (hi : At Z i (.inl (4, 3, F))) (hv : fv Z.1 (M i) F 0 = v) (hdg : decode cc pc = .ok (.getfield 9, 3)) (kk : V X G Z M k n Q (pc + 3) L (v :: rest)) : V X G Z M k n Q pc L (.ref (Z.1 i) :: rest) :=
  r_get tw_wsX4 rfl 0 (by decide) rfl (tw_in mm_94 rfl) hC hi hv hdg kk
theorem gf_X4_15 {i : Nat} {F : Nat → Option (Option Nat)} {v : Value} (hC : Cx X G RX4 cc ret d mc ms nL) (hi : At Z i (.inl (4, 3, F))) (hv : fv Z.1 (M i) F 1 = v) (hdg : decode cc pc = .ok (.getfield 15, 3)) (kk : V X G Z M k n Q (pc + 3) L (v :: rest)) : V X G Z M k n Q pc L (.ref (Z.1 i) :: rest) :=
  r_get tw_wsX4 rfl 1 (by decide) rfl (tw_in mm_95 rfl) hC hi hv hdg kk
theorem gf_X4_36 {i : Nat} {F : Nat → Option (Option Nat)} {v : Value} (hC : Cx X G RX4 cc ret d mc ms nL) (hi : At Z i (.inl (4, 3, F))) (hv : fv Z.1 (M i) F 2 = v) (hdg : decode cc pc = .ok (.getfield 36, 3)) (kk : V X G Z M k n Q (pc + 3) L (v :: rest)) : V X G Z M k n Q pc L (.ref (Z.1 i) :: rest) :=
  r_get tw_wsX4 rfl 2 (by decide) rfl (tw_in mm_96 rfl) hC hi hv hdg kk
theorem gf_X5_12 {i : Nat} {F : Nat → Option (Option Nat)} {v : Value} (hC : Cx X G RX5 cc ret d mc ms nL) (hi : At Z i (.inl (5, 7, F))) (hv : fv Z.1 (M i) F 0 = v) (hdg : decode cc pc = .ok (.getfield 12, 3)) (kk : V X G Z M k n Q (pc + 3) L (v :: rest)) : V X G Z M k n Q pc L (.ref (Z.1 i) :: rest) :=
  r_get tw_wsX5 rfl 0 (by decide) rfl (tw_in mm_240 rfl) hC hi hv hdg kk
theorem gf_X5_19 {i : Nat} {F : Nat → Option (Option Nat)} {v : Value} (hC : Cx X G RX5 cc ret d mc ms nL) (hi : At Z i (.inl (5, 7, F))) (hv : fv Z.1 (M i) F 1 = v) (hdg : decode cc pc = .ok (.getfield 19, 3)) (kk : V X G Z M k n Q (pc + 3) L (v :: rest)) : V X G Z M k n Q pc L (.ref (Z.1 i) :: rest) :=
  r_get tw_wsX5 rfl 1 (by decide) rfl (tw_in mm_241 rfl) hC hi hv hdg kk
theorem gf_X5_23 {i : Nat} {F : Nat → Option (Option Nat)} {v : Value} (hC : Cx X G RX5 cc ret d mc ms nL) (hi : At Z i (.inl (5, 7, F))) (hv : fv Z.1 (M i) F 2 = v) (hdg : decode cc pc = .ok (.getfield 23, 3)) (kk : V X G Z M k n Q (pc + 3) L (v :: rest)) : V X G Z M k n Q pc L (.ref (Z.1 i) :: rest) :=
  r_get tw_wsX5 rfl 2 (by decide) rfl (tw_in mm_242 rfl) hC hi hv hdg kk
theorem gf_X5_29 {i : Nat} {F : Nat → Option (Option Nat)} {v : Value} (hC : Cx X G RX5 cc ret d mc ms nL) (hi : At Z i (.inl (5, 7, F))) (hv : fv Z.1 (M i) F 3 = v) (hdg : decode cc pc = .ok (.getfield 29, 3)) (kk : V X G Z M k n Q (pc + 3) L (v :: rest)) : V X G Z M k n Q pc L (.ref (Z.1 i) :: rest) :=
  r_get tw_wsX5 rfl 3 (by decide) rfl (tw_in mm_243 rfl) hC hi hv hdg kk
theorem gf_X5_36 {i : Nat} {F : Nat → Option (Option Nat)} {v : Value} (hC : Cx X G RX5 cc ret d mc ms nL) (hi : At Z i (.inl (5, 7, F))) (hv : fv Z.1 (M i) F 4 = v) (hdg : decode cc pc = .ok (.getfield 36, 3)) (kk : V X G Z M k n Q (pc + 3) L (v :: rest)) : V X G Z M k n Q pc L (.ref (Z.1 i) :: rest) :=
  r_get tw_wsX5 rfl 4 (by decide) rfl (tw_in mm_244 rfl) hC hi hv hdg kk
theorem gf_X5_40 {i : Nat} {F : Nat → Option (Option Nat)} {v : Value} (hC : Cx X G RX5 cc ret d mc ms nL) (hi : At Z i (.inl (5, 7, F))) (hv : fv Z.1 (M i) F 5 = v) (hdg : decode cc pc = .ok (.getfield 40, 3)) (kk : V X G Z M k n Q (pc + 3) L (v :: rest)) : V X G Z M k n Q pc L (.ref (Z.1 i) :: rest) :=
  r_get tw_wsX5 rfl 5 (by decide) rfl (tw_in mm_245 rfl) hC hi hv hdg kk
theorem gf_X5_44 {i : Nat} {F : Nat → Option (Option Nat)} {v : Value} (hC : Cx X G RX5 cc ret d mc ms nL) (hi : At Z i (.inl (5, 7, F))) (hv : fv Z.1 (M i) F 6 = v) (hdg : decode cc pc = .ok (.getfield 44, 3)) (kk : V X G Z M k n Q (pc + 3) L (v :: rest)) : V X G Z M k n Q pc L (.ref (Z.1 i) :: rest) :=
  r_get tw_wsX5 rfl 6 (by decide) rfl (tw_in mm_246 rfl) hC hi hv hdg kk
theorem gf_X5_80 {i : Nat} {F : Nat → Option (Option Nat)} {v : Value} (hC : Cx X G RX5 cc ret d mc ms nL) (hi : At Z i (.inl (3, 4, F))) (hv : fv Z.1 (M i) F 3 = v) (hdg : decode cc pc = .ok (.getfield 80, 3)) (kk : V X G Z M k n Q (pc + 3) L (v :: rest)) : V X G Z M k n Q pc L (.ref (Z.1 i) :: rest) :=
  r_getN tw_wsX3 rfl 3 (by decide) rfl (tw_in mm_128 rfl) hC hi hv hdg kk
theorem gf_X5_88 {i : Nat} {F : Nat → Option (Option Nat)} {v : Value} (hC : Cx X G RX5 cc ret d mc ms nL) (hi : At Z i (.inl (3, 4, F))) (hv : fv Z.1 (M i) F 2 = v) (hdg : decode cc pc = .ok (.getfield 88, 3)) (kk : V X G Z M k n Q (pc + 3) L (v :: rest)) : V X G Z M k n Q pc L (.ref (Z.1 i) :: rest) :=
  r_getN tw_wsX3 rfl 2 (by decide) rfl (tw_in mm_125 rfl) hC hi hv hdg kk
theorem gf_X6_7 {i : Nat} {F : Nat → Option (Option Nat)} {v : Value} (hC : Cx X G RX6 cc ret d mc ms nL) (hi : At Z i (.inl (6, 19, F))) (hv : fv Z.1 (M i) F 1 = v) (hdg : decode cc pc = .ok (.getfield 7, 3)) (kk : V X G Z M k n Q (pc + 3) L (v :: rest)) : V X G Z M k n Q pc L (.ref (Z.1 i) :: rest) :=
  r_get tw_wsX6 rfl 1 (by decide) rfl (tw_in mm_893 rfl) hC hi hv hdg kk
theorem gf_X6_13 {i : Nat} {F : Nat → Option (Option Nat)} {v : Value} (hC : Cx X G RX6 cc ret d mc ms nL) (hi : At Z i (.inl (6, 19, F))) (hv : fv Z.1 (M i) F 4 = v) (hdg : decode cc pc = .ok (.getfield 13, 3)) (kk : V X G Z M k n Q (pc + 3) L (v :: rest)) : V X G Z M k n Q pc L (.ref (Z.1 i) :: rest) :=
  r_get tw_wsX6 rfl 4 (by decide) rfl (tw_in mm_896 rfl) hC hi hv hdg kk
theorem gf_X6_16 {i : Nat} {F : Nat → Option (Option Nat)} {v : Value} (hC : Cx X G RX6 cc ret d mc ms nL) (hi : At Z i (.inl (6, 19, F))) (hv : fv Z.1 (M i) F 5 = v) (hdg : decode cc pc = .ok (.getfield 16, 3)) (kk : V X G Z M k n Q (pc + 3) L (v :: rest)) : V X G Z M k n Q pc L (.ref (Z.1 i) :: rest) :=
  r_get tw_wsX6 rfl 5 (by decide) rfl (tw_in mm_897 rfl) hC hi hv hdg kk
theorem gf_X6_19 {i : Nat} {F : Nat → Option (Option Nat)} {v : Value} (hC : Cx X G RX6 cc ret d mc ms nL) (hi : At Z i (.inl (6, 19, F))) (hv : fv Z.1 (M i) F 6 = v) (hdg : decode cc pc = .ok (.getfield 19, 3)) (kk : V X G Z M k n Q (pc + 3) L (v :: rest)) : V X G Z M k n Q pc L (.ref (Z.1 i) :: rest) :=
  r_get tw_wsX6 rfl 6 (by decide) rfl (tw_in mm_898 rfl) hC hi hv hdg kk
theorem gf_X6_22 {i : Nat} {F : Nat → Option (Option Nat)} {v : Value} (hC : Cx X G RX6 cc ret d mc ms nL) (hi : At Z i (.inl (6, 19, F))) (hv : fv Z.1 (M i) F 7 = v) (hdg : decode cc pc = .ok (.getfield 22, 3)) (kk : V X G Z M k n Q (pc + 3) L (v :: rest)) : V X G Z M k n Q pc L (.ref (Z.1 i) :: rest) :=
  r_get tw_wsX6 rfl 7 (by decide) rfl (tw_in mm_899 rfl) hC hi hv hdg kk
theorem gf_X6_25 {i : Nat} {F : Nat → Option (Option Nat)} {v : Value} (hC : Cx X G RX6 cc ret d mc ms nL) (hi : At Z i (.inl (6, 19, F))) (hv : fv Z.1 (M i) F 8 = v) (hdg : decode cc pc = .ok (.getfield 25, 3)) (kk : V X G Z M k n Q (pc + 3) L (v :: rest)) : V X G Z M k n Q pc L (.ref (Z.1 i) :: rest) :=
  r_get tw_wsX6 rfl 8 (by decide) rfl (tw_in mm_900 rfl) hC hi hv hdg kk
theorem gf_X6_28 {i : Nat} {F : Nat → Option (Option Nat)} {v : Value} (hC : Cx X G RX6 cc ret d mc ms nL) (hi : At Z i (.inl (6, 19, F))) (hv : fv Z.1 (M i) F 10 = v) (hdg : decode cc pc = .ok (.getfield 28, 3)) (kk : V X G Z M k n Q (pc + 3) L (v :: rest)) : V X G Z M k n Q pc L (.ref (Z.1 i) :: rest) :=
  r_get tw_wsX6 rfl 10 (by decide) rfl (tw_in mm_902 rfl) hC hi hv hdg kk
theorem gf_X6_31 {i : Nat} {F : Nat → Option (Option Nat)} {v : Value} (hC : Cx X G RX6 cc ret d mc ms nL) (hi : At Z i (.inl (6, 19, F))) (hv : fv Z.1 (M i) F 11 = v) (hdg : decode cc pc = .ok (.getfield 31, 3)) (kk : V X G Z M k n Q (pc + 3) L (v :: rest)) : V X G Z M k n Q pc L (.ref (Z.1 i) :: rest) :=
  r_get tw_wsX6 rfl 11 (by decide) rfl (tw_in mm_903 rfl) hC hi hv hdg kk
theorem gf_X6_35 {i : Nat} {F : Nat → Option (Option Nat)} {v : Value} (hC : Cx X G RX6 cc ret d mc ms nL) (hi : At Z i (.inl (6, 19, F))) (hv : fv Z.1 (M i) F 12 = v) (hdg : decode cc pc = .ok (.getfield 35, 3)) (kk : V X G Z M k n Q (pc + 3) L (v :: rest)) : V X G Z M k n Q pc L (.ref (Z.1 i) :: rest) :=
  r_get tw_wsX6 rfl 12 (by decide) rfl (tw_in mm_904 rfl) hC hi hv hdg kk
theorem gf_X6_38 {i : Nat} {F : Nat → Option (Option Nat)} {v : Value} (hC : Cx X G RX6 cc ret d mc ms nL) (hi : At Z i (.inl (6, 19, F))) (hv : fv Z.1 (M i) F 13 = v) (hdg : decode cc pc = .ok (.getfield 38, 3)) (kk : V X G Z M k n Q (pc + 3) L (v :: rest)) : V X G Z M k n Q pc L (.ref (Z.1 i) :: rest) :=
  r_get tw_wsX6 rfl 13 (by decide) rfl (tw_in mm_905 rfl) hC hi hv hdg kk
theorem gf_X6_41 {i : Nat} {F : Nat → Option (Option Nat)} {v : Value} (hC : Cx X G RX6 cc ret d mc ms nL) (hi : At Z i (.inl (6, 19, F))) (hv : fv Z.1 (M i) F 14 = v) (hdg : decode cc pc = .ok (.getfield 41, 3)) (kk : V X G Z M k n Q (pc + 3) L (v :: rest)) : V X G Z M k n Q pc L (.ref (Z.1 i) :: rest) :=
  r_get tw_wsX6 rfl 14 (by decide) rfl (tw_in mm_906 rfl) hC hi hv hdg kk
theorem gf_X6_44 {i : Nat} {F : Nat → Option (Option Nat)} {v : Value} (hC : Cx X G RX6 cc ret d mc ms nL) (hi : At Z i (.inl (6, 19, F))) (hv : fv Z.1 (M i) F 15 = v) (hdg : decode cc pc = .ok (.getfield 44, 3)) (kk : V X G Z M k n Q (pc + 3) L (v :: rest)) : V X G Z M k n Q pc L (.ref (Z.1 i) :: rest) :=
  r_get tw_wsX6 rfl 15 (by decide) rfl (tw_in mm_907 rfl) hC hi hv hdg kk
theorem gf_X6_47 {i : Nat} {F : Nat → Option (Option Nat)} {v : Value} (hC : Cx X G RX6 cc ret d mc ms nL) (hi : At Z i (.inl (6, 19, F))) (hv : fv Z.1 (M i) F 16 = v) (hdg : decode cc pc = .ok (.getfield 47, 3)) (kk : V X G Z M k n Q (pc + 3) L (v :: rest)) : V X G Z M k n Q pc L (.ref (Z.1 i) :: rest) :=
  r_get tw_wsX6 rfl 16 (by decide) rfl (tw_in mm_908 rfl) hC hi hv hdg kk
theorem gf_X6_50 {i : Nat} {F : Nat → Option (Option Nat)} {v : Value} (hC : Cx X G RX6 cc ret d mc ms nL) (hi : At Z i (.inl (6, 19, F))) (hv : fv Z.1 (M i) F 17 = v) (hdg : decode cc pc = .ok (.getfield 50, 3)) (kk : V X G Z M k n Q (pc + 3) L (v :: rest)) : V X G Z M k n Q pc L (.ref (Z.1 i) :: rest) :=
  r_get tw_wsX6 rfl 17 (by decide) rfl (tw_in mm_909 rfl) hC hi hv hdg kk
theorem gf_X6_53 {i : Nat} {F : Nat → Option (Option Nat)} {v : Value} (hC : Cx X G RX6 cc ret d mc ms nL) (hi : At Z i (.inl (6, 19, F))) (hv : fv Z.1 (M i) F 18 = v) (hdg : decode cc pc = .ok (.getfield 53, 3)) (kk : V X G Z M k n Q (pc + 3) L (v :: rest)) : V X G Z M k n Q pc L (.ref (Z.1 i) :: rest) :=
  r_get tw_wsX6 rfl 18 (by decide) rfl (tw_in mm_910 rfl) hC hi hv hdg kk
theorem gf_X6_60 {i : Nat} {F : Nat → Option (Option Nat)} {v : Value} (hC : Cx X G RX6 cc ret d mc ms nL) (hi : At Z i (.inl (6, 19, F))) (hv : fv Z.1 (M i) F 0 = v) (hdg : decode cc pc = .ok (.getfield 60, 3)) (kk : V X G Z M k n Q (pc + 3) L (v :: rest)) : V X G Z M k n Q pc L (.ref (Z.1 i) :: rest) :=
  r_get tw_wsX6 rfl 0 (by decide) rfl (tw_in mm_892 rfl) hC hi hv hdg kk
theorem gf_X6_166 {i : Nat} {F : Nat → Option (Option Nat)} {v : Value} (hC : Cx X G RX6 cc ret d mc ms nL) (hi : At Z i (.inl (6, 19, F))) (hv : fv Z.1 (M i) F 2 = v) (hdg : decode cc pc = .ok (.getfield 166, 3)) (kk : V X G Z M k n Q (pc + 3) L (v :: rest)) : V X G Z M k n Q pc L (.ref (Z.1 i) :: rest) :=
  r_get tw_wsX6 rfl 2 (by decide) rfl (tw_in mm_894 rfl) hC hi hv hdg kk
theorem gf_X6_173 {i : Nat} {F : Nat → Option (Option Nat)} {v : Value} (hC : Cx X G RX6 cc ret d mc ms nL) (hi : At Z i (.inl (6, 19, F))) (hv : fv Z.1 (M i) F 3 = v) (hdg : decode cc pc = .ok (.getfield 173, 3)) (kk : V X G Z M k n Q (pc + 3) L (v :: rest)) : V X G Z M k n Q pc L (.ref (Z.1 i) :: rest) :=
  r_get tw_wsX6 rfl 3 (by decide) rfl (tw_in mm_895 rfl) hC hi hv hdg kk
theorem gf_X6_196 {i : Nat} {F : Nat → Option (Option Nat)} {v : Value} (hC : Cx X G RX6 cc ret d mc ms nL) (hi : At Z i (.inl (6, 19, F))) (hv : fv Z.1 (M i) F 9 = v) (hdg : decode cc pc = .ok (.getfield 196, 3)) (kk : V X G Z M k n Q (pc + 3) L (v :: rest)) : V X G Z M k n Q pc L (.ref (Z.1 i) :: rest) :=
  r_get tw_wsX6 rfl 9 (by decide) rfl (tw_in mm_901 rfl) hC hi hv hdg kk
theorem pf_X0_56 {i : Nat} {F : Nat → Option (Option Nat)} {x : Int32} (hC : Cx X G RX0 cc ret d mc ms nL) (hz : ZOk G Z) (hi : At Z i (.inl (0, 14, F))) (hF : F 10 = none) (hdg : decode cc pc = .ok (.putfield 56, 3)) (kk : V X G Z (mw M i 10 x) k n Q (pc + 3) L rest) : V X G Z M k n Q pc L (.int x :: .ref (Z.1 i) :: rest) :=
  r_put (ty := .int) tw_wsX0 tyX0 tyX0_ok nmX0 rfl 10 (by decide) rfl rfl (by decide +kernel) (tw_in mm_168 rfl) hC hz hi hF rfl rfl hdg kk
theorem pf_X0_63 {i : Nat} {F : Nat → Option (Option Nat)} {x : Int32} (hC : Cx X G RX0 cc ret d mc ms nL) (hz : ZOk G Z) (hi : At Z i (.inl (0, 14, F))) (hF : F 1 = none) (hdg : decode cc pc = .ok (.putfield 63, 3)) (kk : V X G Z (mw M i 1 x) k n Q (pc + 3) L rest) : V X G Z M k n Q pc L (.int x :: .ref (Z.1 i) :: rest) :=
  r_put (ty := .int) tw_wsX0 tyX0 tyX0_ok nmX0 rfl 1 (by decide) rfl rfl (by decide +kernel) (tw_in mm_155 rfl) hC hz hi hF rfl rfl hdg kk
theorem pf_X0_66 {i : Nat} {F : Nat → Option (Option Nat)} {x : Int32} (hC : Cx X G RX0 cc ret d mc ms nL) (hz : ZOk G Z) (hi : At Z i (.inl (0, 14, F))) (hF : F 2 = none) (hdg : decode cc pc = .ok (.putfield 66, 3)) (kk : V X G Z (mw M i 2 x) k n Q (pc + 3) L rest) : V X G Z M k n Q pc L (.int x :: .ref (Z.1 i) :: rest) :=
  r_put (ty := .int) tw_wsX0 tyX0 tyX0_ok nmX0 rfl 2 (by decide) rfl rfl (by decide +kernel) (tw_in mm_156 rfl) hC hz hi hF rfl rfl hdg kk
theorem pf_X0_69 {i : Nat} {F : Nat → Option (Option Nat)} {x : Int32} (hC : Cx X G RX0 cc ret d mc ms nL) (hz : ZOk G Z) (hi : At Z i (.inl (0, 14, F))) (hF : F 3 = none) (hnb : narrow .boolean (.int x) = .int x ∧ fits .boolean (.int x) = true) (hdg : decode cc pc = .ok (.putfield 69, 3)) (kk : V X G Z (mw M i 3 x) k n Q (pc + 3) L rest) : V X G Z M k n Q pc L (.int x :: .ref (Z.1 i) :: rest) :=
  r_put (ty := .boolean) tw_wsX0 tyX0 tyX0_ok nmX0 rfl 3 (by decide) rfl rfl (by decide +kernel) (tw_in mm_157 rfl) hC hz hi hF hnb.1 hnb.2 hdg kk
theorem pf_X0_73 {i : Nat} {F : Nat → Option (Option Nat)} {x : Int32} (hC : Cx X G RX0 cc ret d mc ms nL) (hz : ZOk G Z) (hi : At Z i (.inl (0, 14, F))) (hF : F 6 = none) (hdg : decode cc pc = .ok (.putfield 73, 3)) (kk : V X G Z (mw M i 6 x) k n Q (pc + 3) L rest) : V X G Z M k n Q pc L (.int x :: .ref (Z.1 i) :: rest) :=
  r_put (ty := .int) tw_wsX0 tyX0 tyX0_ok nmX0 rfl 6 (by decide) rfl rfl (by decide +kernel) (tw_in mm_161 rfl) hC hz hi hF rfl rfl hdg kk
theorem pf_X0_87 {i : Nat} {F : Nat → Option (Option Nat)} {x : Int32} (hC : Cx X G RX0 cc ret d mc ms nL) (hz : ZOk G Z) (hi : At Z i (.inl (0, 14, F))) (hF : F 9 = none) (hdg : decode cc pc = .ok (.putfield 87, 3)) (kk : V X G Z (mw M i 9 x) k n Q (pc + 3) L rest) : V X G Z M k n Q pc L (.int x :: .ref (Z.1 i) :: rest) :=
  r_put (ty := .int) tw_wsX0 tyX0 tyX0_ok nmX0 rfl 9 (by decide) rfl rfl (by decide +kernel) (tw_in mm_166 rfl) hC hz hi hF rfl rfl hdg kk
theorem pf_X0_94 {i : Nat} {F : Nat → Option (Option Nat)} {x : Int32} (hC : Cx X G RX0 cc ret d mc ms nL) (hz : ZOk G Z) (hi : At Z i (.inl (0, 14, F))) (hF : F 7 = none) (hdg : decode cc pc = .ok (.putfield 94, 3)) (kk : V X G Z (mw M i 7 x) k n Q (pc + 3) L rest) : V X G Z M k n Q pc L (.int x :: .ref (Z.1 i) :: rest) :=
  r_put (ty := .int) tw_wsX0 tyX0 tyX0_ok nmX0 rfl 7 (by decide) rfl rfl (by decide +kernel) (tw_in mm_163 rfl) hC hz hi hF rfl rfl hdg kk
theorem pf_X1_18 {i : Nat} {F : Nat → Option (Option Nat)} {x : Int32} (hC : Cx X G RX1 cc ret d mc ms nL) (hz : ZOk G Z) (hi : At Z i (.inl (1, 3, F))) (hF : F 2 = none) (hdg : decode cc pc = .ok (.putfield 18, 3)) (kk : V X G Z (mw M i 2 x) k n Q (pc + 3) L rest) : V X G Z M k n Q pc L (.int x :: .ref (Z.1 i) :: rest) :=
  r_put (ty := .int) tw_wsX1 tyX1 tyX1_ok nmX1 rfl 2 (by decide) rfl rfl (by decide +kernel) (tw_in mm_232 rfl) hC hz hi hF rfl rfl hdg kk
theorem pf_X1_22 {i : Nat} {F : Nat → Option (Option Nat)} {x : Int32} (hC : Cx X G RX1 cc ret d mc ms nL) (hz : ZOk G Z) (hi : At Z i (.inl (1, 3, F))) (hF : F 1 = none) (hdg : decode cc pc = .ok (.putfield 22, 3)) (kk : V X G Z (mw M i 1 x) k n Q (pc + 3) L rest) : V X G Z M k n Q pc L (.int x :: .ref (Z.1 i) :: rest) :=
  r_put (ty := .int) tw_wsX1 tyX1 tyX1_ok nmX1 rfl 1 (by decide) rfl rfl (by decide +kernel) (tw_in mm_231 rfl) hC hz hi hF rfl rfl hdg kk
theorem pf_X2_37 {i : Nat} {F : Nat → Option (Option Nat)} {x : Int32} (hC : Cx X G RX2 cc ret d mc ms nL) (hz : ZOk G Z) (hi : At Z i (.inl (2, 5, F))) (hF : F 4 = none) (hdg : decode cc pc = .ok (.putfield 37, 3)) (kk : V X G Z (mw M i 4 x) k n Q (pc + 3) L rest) : V X G Z M k n Q pc L (.int x :: .ref (Z.1 i) :: rest) :=
  r_put (ty := .int) tw_wsX2 tyX2 tyX2_ok nmX2 rfl 4 (by decide) rfl rfl (by decide +kernel) (tw_in mm_209 rfl) hC hz hi hF rfl rfl hdg kk
theorem pf_X3_25 {i : Nat} {F : Nat → Option (Option Nat)} {x : Int32} (hC : Cx X G RX3 cc ret d mc ms nL) (hz : ZOk G Z) (hi : At Z i (.inl (3, 4, F))) (hF : F 2 = none) (hdg : decode cc pc = .ok (.putfield 25, 3)) (kk : V X G Z (mw M i 2 x) k n Q (pc + 3) L rest) : V X G Z M k n Q pc L (.int x :: .ref (Z.1 i) :: rest) :=
  r_put (ty := .int) tw_wsX3 tyX3 tyX3_ok nmX3 rfl 2 (by decide) rfl rfl (by decide +kernel) (tw_in mm_123 rfl) hC hz hi hF rfl rfl hdg kk
theorem pf_X3_29 {i : Nat} {F : Nat → Option (Option Nat)} {x : Int32} (hC : Cx X G RX3 cc ret d mc ms nL) (hz : ZOk G Z) (hi : At Z i (.inl (3, 4, F))) (hF : F 3 = none) (hdg : decode cc pc = .ok (.putfield 29, 3)) (kk : V X G Z (mw M i 3 x) k n Q (pc + 3) L rest) : V X G Z M k n Q pc L (.int x :: .ref (Z.1 i) :: rest) :=
  r_put (ty := .int) tw_wsX3 tyX3 tyX3_ok nmX3 rfl 3 (by decide) rfl rfl (by decide +kernel) (tw_in mm_127 rfl) hC hz hi hF rfl rfl hdg kk
theorem pf_X4_15 {i : Nat} {F : Nat → Option (Option Nat)} {x : Int32} (hC : Cx X G RX4 cc ret d mc ms nL) (hz : ZOk G Z) (hi : At Z i (.inl (4, 3, F))) (hF : F 1 = none) (hdg : decode cc pc = .ok (.putfield 15, 3)) (kk : V X G Z (mw M i 1 x) k n Q (pc + 3) L rest) : V X G Z M k n Q pc L (.int x :: .ref (Z.1 i) :: rest) :=
  r_put (ty := .int) tw_wsX4 tyX4 tyX4_ok nmX4 rfl 1 (by decide) rfl rfl (by decide +kernel) (tw_in mm_95 rfl) hC hz hi hF rfl rfl hdg kk
theorem pf_X4_36 {i : Nat} {F : Nat → Option (Option Nat)} {x : Int32} (hC : Cx X G RX4 cc ret d mc ms nL) (hz : ZOk G Z) (hi : At Z i (.inl (4, 3, F))) (hF : F 2 = none) (hdg : decode cc pc = .ok (.putfield 36, 3)) (kk : V X G Z (mw M i 2 x) k n Q (pc + 3) L rest) : V X G Z M k n Q pc L (.int x :: .ref (Z.1 i) :: rest) :=
  r_put (ty := .int) tw_wsX4 tyX4 tyX4_ok nmX4 rfl 2 (by decide) rfl rfl (by decide +kernel) (tw_in mm_96 rfl) hC hz hi hF rfl rfl hdg kk
theorem pf_X6_60 {i : Nat} {F : Nat → Option (Option Nat)} {x : Int32} (hC : Cx X G RX6 cc ret d mc ms nL) (hz : ZOk G Z) (hi : At Z i (.inl (6, 19, F))) (hF : F 0 = none) (hdg : decode cc pc = .ok (.putfield 60, 3)) (kk : V X G Z (mw M i 0 x) k n Q (pc + 3) L rest) : V X G Z M k n Q pc L (.int x :: .ref (Z.1 i) :: rest) :=
  r_put (ty := .int) tw_wsX6 tyX6 tyX6_ok nmX6 rfl 0 (by decide) rfl rfl (by decide +kernel) (tw_in mm_892 rfl) hC hz hi hF rfl rfl hdg kk
theorem pf_X6_166 {i : Nat} {F : Nat → Option (Option Nat)} {x : Int32} (hC : Cx X G RX6 cc ret d mc ms nL) (hz : ZOk G Z) (hi : At Z i (.inl (6, 19, F))) (hF : F 2 = none) (hdg : decode cc pc = .ok (.putfield 166, 3)) (kk : V X G Z (mw M i 2 x) k n Q (pc + 3) L rest) : V X G Z M k n Q pc L (.int x :: .ref (Z.1 i) :: rest) :=
  r_put (ty := .int) tw_wsX6 tyX6 tyX6_ok nmX6 rfl 2 (by decide) rfl rfl (by decide +kernel) (tw_in mm_894 rfl) hC hz hi hF rfl rfl hdg kk
theorem pf_X6_173 {i : Nat} {F : Nat → Option (Option Nat)} {x : Int32} (hC : Cx X G RX6 cc ret d mc ms nL) (hz : ZOk G Z) (hi : At Z i (.inl (6, 19, F))) (hF : F 3 = none) (hdg : decode cc pc = .ok (.putfield 173, 3)) (kk : V X G Z (mw M i 3 x) k n Q (pc + 3) L rest) : V X G Z M k n Q pc L (.int x :: .ref (Z.1 i) :: rest) :=
  r_put (ty := .int) tw_wsX6 tyX6 tyX6_ok nmX6 rfl 3 (by decide) rfl rfl (by decide +kernel) (tw_in mm_895 rfl) hC hz hi hF rfl rfl hdg kk
theorem pf_X6_196 {i : Nat} {F : Nat → Option (Option Nat)} {x : Int32} (hC : Cx X G RX6 cc ret d mc ms nL) (hz : ZOk G Z) (hi : At Z i (.inl (6, 19, F))) (hF : F 9 = none) (hdg : decode cc pc = .ok (.putfield 196, 3)) (kk : V X G Z (mw M i 9 x) k n Q (pc + 3) L rest) : V X G Z M k n Q pc L (.int x :: .ref (Z.1 i) :: rest) :=
  r_put (ty := .int) tw_wsX6 tyX6 tyX6_ok nmX6 rfl 9 (by decide) rfl rfl (by decide +kernel) (tw_in mm_901 rfl) hC hz hi hF rfl rfl hdg kk
end LK
theorem cs_X0_35 : CsV RX0 35 yX0_readSettings cX0_readSettings 3 none 1 := csV_of mm_346 mm_348 mm_4 mm_69 mm_349 (by decide +kernel)
theorem cs_X0_39 : CsV RX0 39 yX0_readNotes cX0_readNotes 4 none 2 := csV_of mm_354 mm_356 mm_5 mm_69 mm_357 (by decide +kernel)
theorem cs_X0_49 : CsV RX0 49 yX0_reasonFor cX0_reasonFor 6 (some .int) 2 := csV_of mm_363 mm_365 mm_6 mm_69 mm_366 (by decide +kernel)
theorem cs_X0_53 : CsV RX0 53 yX0_share cX0_share 2 none 0 := csV_of mm_370 mm_372 mm_7 mm_69 mm_373 (by decide +kernel)
theorem cs_X0_59 : CsV RX0 59 yX3_settingAt cX3_settingAt 2 (some .int) 1 := csV_of mm_350 mm_351 mm_352 mm_67 mm_353 (by decide +kernel)
theorem cs_X0_76 : CsV RX0 76 yX3_sounding cX3_sounding 5 (some .int) 2 := csV_of mm_358 mm_359 mm_360 mm_67 mm_361 (by decide +kernel)
theorem cs_X0_79 : CsV RX0 79 yX3_written cX3_written 3 (some .int) 2 := csV_of mm_362 mm_297 mm_298 mm_67 mm_299 (by decide +kernel)
theorem cs_X0_90 : CsV RX0 90 yX0_insert cX0_insert 3 none 1 := csV_of mm_374 mm_376 mm_8 mm_69 mm_377 (by decide +kernel)
theorem cs_X0_97 : CsV RX0 97 yX0_measure cX0_measure 5 none 4 := csV_of mm_378 mm_380 mm_9 mm_69 mm_381 (by decide +kernel)
theorem cs_X0_101 : CsV RX0 101 yX0_canPlay cX0_canPlay 4 (some .boolean) 2 := csV_of mm_382 mm_384 mm_10 mm_69 mm_385 (by decide +kernel)
theorem cs_X0_105 : CsV RX0 105 yX0_countOf cX0_countOf 3 (some .int) 2 := csV_of mm_386 mm_387 mm_388 mm_69 mm_389 (by decide +kernel)
theorem cs_X0_108 : CsV RX0 108 yX0_stavesOf cX0_stavesOf 3 (some .int) 2 := csV_of mm_390 mm_391 mm_392 mm_69 mm_393 (by decide +kernel)
theorem cs_X0_111 : CsV RX0 111 yX0_isRolled cX0_isRolled 3 (some .boolean) 2 := csV_of mm_430 mm_431 mm_432 mm_69 mm_433 (by decide +kernel)
theorem cs_X0_114 : CsV RX0 114 yX0_cutStaves cX0_cutStaves 6 (some .int) 3 := csV_of mm_416 mm_417 mm_418 mm_69 mm_419 (by decide +kernel)
theorem cs_X0_118 : CsS RX0 118 yJ6_bitCount_0f7a4 cJ6_bitCount_0f7a4 1 (some .int) 1 := csS_of mm_420 mm_421 mm_79 mm_422 (by decide +kernel)
theorem cs_X0_123 : CsV RX0 123 yX0_countRolled cX0_countRolled 2 (some .int) 1 := csV_of mm_426 mm_427 mm_428 mm_69 mm_429 (by decide +kernel)
theorem cs_X0_126 : CsV RX0 126 yX0_move cX0_move 7 (some .int) 4 := csV_of mm_434 mm_435 mm_436 mm_69 mm_437 (by decide +kernel)
theorem cs_X1_25 : CsV RX1 25 yX3_takeFrom cX3_takeFrom 3 none 1 := csV_of mm_666 mm_324 mm_325 mm_67 mm_326 (by decide +kernel)
theorem cs_X2_38 : CsV RX2 38 yX0_read cX0_read 5 none 2 := csV_of mm_342 mm_343 mm_344 mm_69 mm_345 (by decide +kernel)
theorem cs_X2_42 : CsV RX2 42 yX3_settingAt cX3_settingAt 2 (some .int) 1 := csV_of mm_394 mm_351 mm_352 mm_67 mm_353 (by decide +kernel)
theorem cs_X2_46 : CsV RX2 46 yX2_lookAhead cX2_lookAhead 6 none 1 := csV_of mm_395 mm_397 mm_11 mm_68 mm_398 (by decide +kernel)
theorem cs_X2_50 : CsV RX2 50 yX2_chordAt cX2_chordAt 2 (some (.object "HandSpans$Chord")) 1 := csV_of mm_399 mm_401 mm_12 mm_68 mm_402 (by decide +kernel)
theorem cs_X2_54 : CsV RX2 54 yX2_splitAt cX2_splitAt 2 (some .int) 1 := csV_of mm_438 mm_440 mm_14 mm_68 mm_441 (by decide +kernel)
theorem cs_X2_57 : CsV RX2 57 yX2_bestSplit cX2_bestSplit 9 (some .int) 3 := csV_of mm_407 mm_409 mm_13 mm_68 mm_410 (by decide +kernel)
theorem cs_X2_61 : CsV RX2 61 yX0_isPossible cX0_isPossible 2 (some .boolean) 1 := csV_of mm_403 mm_404 mm_405 mm_69 mm_406 (by decide +kernel)
theorem cs_X2_65 : CsV RX2 65 yX0_costs cX0_costs 4 (some .int) 3 := csV_of mm_412 mm_413 mm_414 mm_69 mm_415 (by decide +kernel)
theorem cs_X2_69 : CsV RX2 69 yX0_cutStaves cX0_cutStaves 6 (some .int) 3 := csV_of mm_458 mm_417 mm_418 mm_69 mm_419 (by decide +kernel)
theorem cs_X2_72 : CsV RX2 72 yX0_move cX0_move 7 (some .int) 4 := csV_of mm_465 mm_435 mm_436 mm_69 mm_437 (by decide +kernel)
theorem cs_X2_79 : CsV RX2 79 yX2_cutStaves cX2_cutStaves 2 (some .int) 1 := csV_of mm_454 mm_456 mm_17 mm_68 mm_457 (by decide +kernel)
theorem cs_X2_84 : CsV RX2 84 yX0_stavesOf cX0_stavesOf 3 (some .int) 2 := csV_of mm_775 mm_391 mm_392 mm_69 mm_393 (by decide +kernel)
theorem cs_X2_88 : CsV RX2 88 yX0_countOf cX0_countOf 3 (some .int) 2 := csV_of mm_787 mm_387 mm_388 mm_69 mm_389 (by decide +kernel)
theorem cs_X2_97 : CsV RX2 97 yX0_isRolled cX0_isRolled 3 (some .boolean) 2 := csV_of mm_788 mm_431 mm_432 mm_69 mm_433 (by decide +kernel)
theorem cs_X2_101 : CsV RX2 101 yX2_move cX2_move 3 (some .int) 2 := csV_of mm_461 mm_463 mm_18 mm_68 mm_464 (by decide +kernel)
theorem cs_X2_106 : CsS RX2 106 yJ6_bitCount_0f7a4 cJ6_bitCount_0f7a4 1 (some .int) 1 := csS_of mm_459 mm_421 mm_79 mm_422 (by decide +kernel)
theorem cs_X2_111 : CsV RX2 111 yX2_costs cX2_costs 2 (some .int) 1 := csV_of mm_450 mm_452 mm_16 mm_68 mm_453 (by decide +kernel)
theorem cs_X2_116 : CsV RX2 116 yX2_shareOfBeat cX2_shareOfBeat 4 (some .int) 2 := csV_of mm_446 mm_448 mm_15 mm_68 mm_449 (by decide +kernel)
theorem cs_X2_119 : CsV RX2 119 yX0_countRolled cX0_countRolled 2 (some .int) 1 := csV_of mm_460 mm_427 mm_428 mm_69 mm_429 (by decide +kernel)
theorem cs_X2_125 : CsV RX2 125 yX0_countLeftOut cX0_countLeftOut 4 (some .int) 1 := csV_of mm_466 mm_467 mm_468 mm_69 mm_469 (by decide +kernel)
theorem cs_X3_35 : CsS RX3 35 yX3_isSetting cX3_isSetting 1 (some .boolean) 1 := csS_of mm_331 mm_332 mm_67 mm_333 (by decide +kernel)
theorem cs_X3_45 : CsV RX3 45 yX3_hasStaff cX3_hasStaff 2 (some .boolean) 1 := csV_of mm_308 mm_309 mm_310 mm_67 mm_311 (by decide +kernel)
theorem cs_X3_48 : CsV RX3 48 yX3_hasBeat cX3_hasBeat 2 (some .boolean) 1 := csV_of mm_312 mm_313 mm_314 mm_67 mm_315 (by decide +kernel)
theorem cs_X3_51 : CsV RX3 51 yX3_written cX3_written 3 (some .int) 2 := csV_of mm_296 mm_297 mm_298 mm_67 mm_299 (by decide +kernel)
theorem cs_X3_55 : CsS RX3 55 yX3_isPitch cX3_isPitch 1 (some .boolean) 1 := csS_of mm_604 mm_317 mm_67 mm_318 (by decide +kernel)
theorem cs_X3_58 : CsV RX3 58 yX3_countStruckOf cX3_countStruckOf 4 (some .int) 1 := csV_of mm_600 mm_601 mm_602 mm_67 mm_603 (by decide +kernel)
theorem cs_X3_62 : CsV RX3 62 yX3_hasCell cX3_hasCell 3 (some .boolean) 2 := csV_of mm_304 mm_305 mm_306 mm_67 mm_307 (by decide +kernel)
theorem cs_X3_66 : CsV RX3 66 yX3_put cX3_put 4 none 3 := csV_of mm_479 mm_301 mm_302 mm_67 mm_303 (by decide +kernel)
theorem cs_X3_70 : CsV RX3 70 yX3_silenceStaff cX3_silenceStaff 3 none 1 := csV_of mm_719 mm_476 mm_477 mm_67 mm_478 (by decide +kernel)
theorem cs_X3_74 : CsV RX3 74 yX3_allowsHold cX3_allowsHold 3 (some .boolean) 2 := csV_of mm_681 mm_293 mm_294 mm_67 mm_295 (by decide +kernel)
theorem cs_X4_19 : CsV RX4 19 yX4_isFull cX4_isFull 1 (some .boolean) 0 := csV_of mm_575 mm_553 mm_554 mm_66 mm_555 (by decide +kernel)
theorem cs_X4_23 : CsV RX4 23 yX4_signAt cX4_signAt 2 (some .int) 1 := csV_of mm_279 mm_281 mm_0 mm_66 mm_282 (by decide +kernel)
theorem cs_X4_27 : CsV RX4 27 yX4_digitAt cX4_digitAt 3 (some .int) 1 := csV_of mm_283 mm_285 mm_1 mm_66 mm_286 (by decide +kernel)
theorem cs_X4_30 : CsV RX4 30 yX3_becomeRests cX3_becomeRests 4 none 2 := csV_of mm_287 mm_112 mm_113 mm_67 mm_114 (by decide +kernel)
theorem cs_X4_39 : CsV RX4 39 yX4_readCell cX4_readCell 8 (some .boolean) 3 := csV_of mm_288 mm_290 mm_2 mm_66 mm_291 (by decide +kernel)
theorem cs_X4_43 : CsV RX4 43 yX3_allowsHold cX3_allowsHold 3 (some .boolean) 2 := csV_of mm_292 mm_293 mm_294 mm_67 mm_295 (by decide +kernel)
theorem cs_X4_47 : CsV RX4 47 yX3_put cX3_put 4 none 3 := csV_of mm_300 mm_301 mm_302 mm_67 mm_303 (by decide +kernel)
theorem cs_X4_51 : CsS RX4 51 yX3_isPitch cX3_isPitch 1 (some .boolean) 1 := csS_of mm_316 mm_317 mm_67 mm_318 (by decide +kernel)
theorem cs_X5_51 : CsV RX5 51 yX4_isFull cX4_isFull 1 (some .boolean) 0 := csV_of mm_552 mm_553 mm_554 mm_66 mm_555 (by decide +kernel)
theorem cs_X5_58 : CsV RX5 58 yX4_add cX4_add 2 (some .int) 1 := csV_of mm_571 mm_572 mm_573 mm_66 mm_574 (by decide +kernel)
theorem cs_X5_62 : CsV RX5 62 yX4_empty cX4_empty 2 (some .int) 0 := csV_of mm_267 mm_268 mm_269 mm_66 mm_270 (by decide +kernel)
theorem cs_X5_66 : CsV RX5 66 yX4_readInto cX4_readInto 8 (some .int) 1 := csV_of mm_275 mm_276 mm_277 mm_66 mm_278 (by decide +kernel)
theorem cs_X5_70 : CsV RX5 70 yX3_resetSettings cX3_resetSettings 2 none 0 := csV_of mm_583 mm_116 mm_117 mm_67 mm_118 (by decide +kernel)
theorem cs_X5_73 : CsV RX5 73 yX3_takeFrom cX3_takeFrom 3 none 1 := csV_of mm_323 mm_324 mm_325 mm_67 mm_326 (by decide +kernel)
theorem cs_X5_77 : CsV RX5 77 yX1_forget cX1_forget 1 none 0 := csV_of mm_584 mm_585 mm_586 mm_70 mm_587 (by decide +kernel)
theorem cs_X5_84 : CsV RX5 84 yX3_settingAt cX3_settingAt 2 (some .int) 1 := csV_of mm_595 mm_351 mm_352 mm_67 mm_353 (by decide +kernel)
theorem cs_X5_91 : CsV RX5 91 yX3_countStruck cX3_countStruck 3 (some .int) 0 := csV_of mm_596 mm_597 mm_598 mm_67 mm_599 (by decide +kernel)
theorem cs_X5_94 : CsV RX5 94 yX3_countHolds cX3_countHolds 4 (some .int) 0 := csV_of mm_605 mm_606 mm_607 mm_67 mm_608 (by decide +kernel)
theorem cs_X5_97 : CsV RX5 97 yX5_requireCell cX5_requireCell 3 none 2 := csV_of mm_617 mm_619 mm_20 mm_65 mm_620 (by decide +kernel)
theorem cs_X5_101 : CsV RX5 101 yX3_sounding cX3_sounding 5 (some .int) 2 := csV_of mm_646 mm_359 mm_360 mm_67 mm_361 (by decide +kernel)
theorem cs_X5_105 : CsV RX5 105 yX3_written cX3_written 3 (some .int) 2 := csV_of mm_647 mm_297 mm_298 mm_67 mm_299 (by decide +kernel)
theorem cs_X5_108 : CsS RX5 108 yX3_allowsSetting cX3_allowsSetting 2 (some .boolean) 2 := csS_of mm_655 mm_656 mm_67 mm_657 (by decide +kernel)
theorem cs_X5_112 : CsV RX5 112 yX1_remember cX1_remember 2 none 1 := csV_of mm_662 mm_663 mm_664 mm_70 mm_665 (by decide +kernel)
theorem cs_X5_115 : CsV RX5 115 yX3_changeSetting cX3_changeSetting 3 none 2 := csV_of mm_327 mm_328 mm_329 mm_67 mm_330 (by decide +kernel)
theorem cs_X5_118 : CsS RX5 118 yX3_isPitch cX3_isPitch 1 (some .boolean) 1 := csS_of mm_674 mm_317 mm_67 mm_318 (by decide +kernel)
theorem cs_X5_122 : CsV RX5 122 yX3_allowsHold cX3_allowsHold 3 (some .boolean) 2 := csV_of mm_675 mm_293 mm_294 mm_67 mm_295 (by decide +kernel)
theorem cs_X5_125 : CsV RX5 125 yX3_put cX3_put 4 none 3 := csV_of mm_676 mm_301 mm_302 mm_67 mm_303 (by decide +kernel)
theorem cs_X5_129 : CsV RX5 129 yX3_dropLooseHolds cX3_dropLooseHolds 3 none 0 := csV_of mm_677 mm_678 mm_679 mm_67 mm_680 (by decide +kernel)
theorem cs_X5_132 : CsV RX5 132 yX5_requireStaff cX5_requireStaff 2 none 1 := csV_of mm_621 mm_623 mm_21 mm_65 mm_624 (by decide +kernel)
theorem cs_X5_136 : CsV RX5 136 yX3_allowsMoving cX3_allowsMoving 5 (some .boolean) 2 := csV_of mm_689 mm_690 mm_691 mm_67 mm_692 (by decide +kernel)
theorem cs_X5_139 : CsV RX5 139 yX3_moveStaff cX3_moveStaff 5 (some .int) 2 := csV_of mm_693 mm_694 mm_695 mm_67 mm_696 (by decide +kernel)
theorem cs_X5_142 : CsV RX5 142 yX3_swapStaves cX3_swapStaves 7 (some .int) 2 := csV_of mm_704 mm_705 mm_706 mm_67 mm_707 (by decide +kernel)
theorem cs_X5_145 : CsV RX5 145 yX3_addStaff cX3_addStaff 1 none 0 := csV_of mm_715 mm_716 mm_717 mm_67 mm_718 (by decide +kernel)
theorem cs_X5_148 : CsV RX5 148 yX3_dropStaff cX3_dropStaff 1 none 0 := csV_of mm_720 mm_721 mm_722 mm_67 mm_723 (by decide +kernel)
theorem cs_X5_154 : CsV RX5 154 yX3_openBeat cX3_openBeat 4 none 1 := csV_of mm_731 mm_732 mm_733 mm_67 mm_734 (by decide +kernel)
theorem cs_X5_157 : CsV RX5 157 yX5_requireBeat cX5_requireBeat 2 none 1 := csV_of mm_641 mm_643 mm_22 mm_65 mm_644 (by decide +kernel)
theorem cs_X5_160 : CsV RX5 160 yX3_closeBeat cX3_closeBeat 4 none 1 := csV_of mm_742 mm_743 mm_744 mm_67 mm_745 (by decide +kernel)
theorem cs_X5_163 : CsV RX5 163 yX1_isEmpty cX1_isEmpty 1 (some .boolean) 0 := csV_of mm_753 mm_754 mm_755 mm_70 mm_756 (by decide +kernel)
theorem cs_X5_166 : CsV RX5 166 yX1_takeBack cX1_takeBack 2 (some .int) 1 := csV_of mm_757 mm_758 mm_759 mm_70 mm_760 (by decide +kernel)
theorem cs_X5_169 : CsS RX5 169 yX5_requireUpTo cX5_requireUpTo 2 none 2 := csS_of mm_768 mm_769 mm_65 mm_770 (by decide +kernel)
theorem cs_X5_172 : CsV RX5 172 yX2_make cX2_make 3 none 1 := csV_of mm_338 mm_339 mm_340 mm_68 mm_341 (by decide +kernel)
theorem cs_X5_175 : CsV RX5 175 yX2_numberOfNote cX2_numberOfNote 8 (some .int) 3 := csV_of mm_771 mm_772 mm_773 mm_68 mm_774 (by decide +kernel)
theorem cs_X5_179 : CsV RX5 179 yX2_numberOfHand cX2_numberOfHand 6 (some .int) 3 := csV_of mm_783 mm_784 mm_785 mm_68 mm_786 (by decide +kernel)
theorem cs_X5_182 : CsV RX5 182 yX2_numberOfBeat cX2_numberOfBeat 4 (some .int) 2 := csV_of mm_796 mm_797 mm_798 mm_68 mm_799 (by decide +kernel)
theorem cs_X5_185 : CsV RX5 185 yX2_numberOfWhole cX2_numberOfWhole 4 (some .int) 1 := csV_of mm_442 mm_443 mm_444 mm_68 mm_445 (by decide +kernel)
theorem cs_X5_188 : CsV RX5 188 yX5_numberOfTrial cX5_numberOfTrial 2 (some .int) 1 := csV_of mm_334 mm_336 mm_3 mm_65 mm_337 (by decide +kernel)
theorem cs_X5_192 : CsV RX5 192 yX3_silenceStaff cX3_silenceStaff 3 none 1 := csV_of mm_475 mm_476 mm_477 mm_67 mm_478 (by decide +kernel)
theorem cs_X5_195 : CsS RX5 195 yX5_groupFromEnd cX5_groupFromEnd 6 (some .long) 2 := csS_of mm_828 mm_829 mm_65 mm_830 (by decide +kernel)
theorem cs_X5_201 : CsV RX5 201 yX5_succeeds cX5_succeeds 7 (some .boolean) 1 := csV_of mm_832 mm_834 mm_23 mm_65 mm_835 (by decide +kernel)
theorem cs_X5_208 : CsV RX5 208 yX5_simulateRound cX5_simulateRound 5 none 1 := csV_of mm_862 mm_864 mm_28 mm_65 mm_865 (by decide +kernel)
theorem cs_X5_211 : CsS RX5 211 yX5_requireSlot cX5_requireSlot 1 none 1 := csS_of mm_873 mm_874 mm_65 mm_875 (by decide +kernel)
theorem cs_X5_214 : CsV RX5 214 yX3_hasStaff cX3_hasStaff 2 (some .boolean) 1 := csV_of mm_625 mm_309 mm_310 mm_67 mm_311 (by decide +kernel)
theorem cs_X5_217 : CsV RX5 217 yX3_hasBeat cX3_hasBeat 2 (some .boolean) 1 := csV_of mm_645 mm_313 mm_314 mm_67 mm_315 (by decide +kernel)
theorem cs_X5_220 : CsV RX5 220 yX5_triedSetting cX5_triedSetting 3 (some .boolean) 2 := csV_of mm_836 mm_838 mm_24 mm_65 mm_839 (by decide +kernel)
theorem cs_X5_223 : CsV RX5 223 yX5_triedCell cX5_triedCell 4 (some .boolean) 3 := csV_of mm_840 mm_842 mm_25 mm_65 mm_843 (by decide +kernel)
theorem cs_X5_227 : CsV RX5 227 yX5_triedExchange cX5_triedExchange 3 (some .boolean) 2 := csV_of mm_845 mm_847 mm_26 mm_65 mm_848 (by decide +kernel)
theorem cs_X5_230 : CsV RX5 230 yX5_triedRemoval cX5_triedRemoval 2 (some .boolean) 1 := csV_of mm_849 mm_851 mm_27 mm_65 mm_852 (by decide +kernel)
theorem cs_X5_233 : CsV RX5 233 yX3_hasCell cX3_hasCell 3 (some .boolean) 2 := csV_of mm_844 mm_305 mm_306 mm_67 mm_307 (by decide +kernel)
theorem cs_X6_56 : CsS RX6 56 yX6_begin cX6_begin 2 none 1 := csS_of mm_889 mm_890 mm_71 mm_891 (by decide +kernel)
theorem cs_X6_66 : CsS RX6 66 yX6_in cX6_in 6 (some .boolean) 3 := csS_of mm_959 mm_960 mm_71 mm_961 (by decide +kernel)
theorem cs_X6_70 : CsS RX6 70 yX6_at cX6_at 2 (some .int) 2 := csS_of mm_994 mm_995 mm_71 mm_996 (by decide +kernel)
theorem cs_X6_74 : CsV RX6 74 yX6_isHeld cX6_isHeld 4 (some .boolean) 3 := csV_of mm_1030 mm_1032 mm_36 mm_71 mm_1033 (by decide +kernel)
theorem cs_X6_78 : CsS RX6 78 yX6_rank cX6_rank 2 (some .int) 2 := csS_of mm_1114 mm_1115 mm_71 mm_1116 (by decide +kernel)
theorem cs_X6_82 : CsV RX6 82 yX6_stands cX6_stands 9 (some .boolean) 4 := csV_of mm_1110 mm_1112 mm_40 mm_71 mm_1113 (by decide +kernel)
theorem cs_X6_86 : CsV RX6 86 yX6_pitchOf cX6_pitchOf 3 (some .int) 2 := csV_of mm_1133 mm_1135 mm_45 mm_71 mm_1136 (by decide +kernel)
theorem cs_X6_89 : CsV RX6 89 yX6_width cX6_width 4 (some .int) 3 := csV_of mm_1129 mm_1131 mm_44 mm_71 mm_1132 (by decide +kernel)
theorem cs_X6_93 : CsV RX6 93 yX6_canPlay cX6_canPlay 8 (some .boolean) 5 := csV_of mm_1125 mm_1127 mm_43 mm_71 mm_1128 (by decide +kernel)
theorem cs_X6_97 : CsV RX6 97 yX6_placeOf cX6_placeOf 4 (some .int) 2 := csV_of mm_1181 mm_1183 mm_57 mm_71 mm_1184 (by decide +kernel)
theorem cs_X6_100 : CsV RX6 100 yX6_handOf cX6_handOf 5 (some .int) 3 := csV_of mm_1185 mm_1187 mm_58 mm_71 mm_1188 (by decide +kernel)
theorem cs_X6_103 : CsV RX6 103 yX6_to cX6_to 4 (some .int) 3 := csV_of mm_1165 mm_1167 mm_53 mm_71 mm_1168 (by decide +kernel)
theorem cs_X6_106 : CsV RX6 106 yX6_from cX6_from 3 (some .int) 2 := csV_of mm_1169 mm_1171 mm_54 mm_71 mm_1172 (by decide +kernel)
theorem cs_X6_109 : CsV RX6 109 yX6_position cX6_position 4 (some .int) 3 := csV_of mm_1161 mm_1163 mm_52 mm_71 mm_1164 (by decide +kernel)
theorem cs_X6_112 : CsV RX6 112 yX6_move cX6_move 8 (some .int) 4 := csV_of mm_1157 mm_1159 mm_51 mm_71 mm_1160 (by decide +kernel)
theorem cs_X6_116 : CsV RX6 116 yX6_isRolled cX6_isRolled 5 (some .boolean) 4 := csV_of mm_1173 mm_1175 mm_55 mm_71 mm_1176 (by decide +kernel)
theorem cs_X6_120 : CsV RX6 120 yX6_isCut cX6_isCut 6 (some .boolean) 5 := csV_of mm_1177 mm_1179 mm_56 mm_71 mm_1180 (by decide +kernel)
theorem cs_X6_123 : CsV RX6 123 yX6_can cX6_can 3 (some .boolean) 2 := csV_of mm_1149 mm_1151 mm_49 mm_71 mm_1152 (by decide +kernel)
theorem cs_X6_127 : CsV RX6 127 yX6_costOf cX6_costOf 7 (some .int) 4 := csV_of mm_1153 mm_1155 mm_50 mm_71 mm_1156 (by decide +kernel)
theorem cs_X6_131 : CsV RX6 131 yX6_cheapest cX6_cheapest 10 (some .int) 4 := csV_of mm_1145 mm_1147 mm_48 mm_71 mm_1148 (by decide +kernel)
theorem cs_X6_135 : CsV RX6 135 yX6_laySounds cX6_laySounds 5 none 1 := csV_of mm_1026 mm_1028 mm_35 mm_71 mm_1029 (by decide +kernel)
theorem cs_X6_138 : CsV RX6 138 yX6_layReasons cX6_layReasons 4 none 2 := csV_of mm_1106 mm_1108 mm_39 mm_71 mm_1109 (by decide +kernel)
theorem cs_X6_142 : CsV RX6 142 yX6_layRow cX6_layRow 6 none 2 := csV_of mm_1117 mm_1119 mm_41 mm_71 mm_1120 (by decide +kernel)
theorem cs_X6_145 : CsV RX6 145 yX6_layPossible cX6_layPossible 5 none 2 := csV_of mm_1121 mm_1123 mm_42 mm_71 mm_1124 (by decide +kernel)
theorem cs_X6_148 : CsV RX6 148 yX6_dropInner cX6_dropInner 4 none 2 := csV_of mm_1137 mm_1139 mm_46 mm_71 mm_1140 (by decide +kernel)
theorem cs_X6_151 : CsV RX6 151 yX6_layAhead cX6_layAhead 6 none 1 := csV_of mm_1141 mm_1143 mm_47 mm_71 mm_1144 (by decide +kernel)
theorem cs_X6_154 : CsV RX6 154 yX6_before cX6_before 2 (some .int) 1 := csV_of mm_1193 mm_1195 mm_60 mm_71 mm_1196 (by decide +kernel)
theorem cs_X6_158 : CsV RX6 158 yX6_lay cX6_lay 4 none 1 := csV_of mm_1102 mm_1104 mm_38 mm_71 mm_1105 (by decide +kernel)
theorem cs_X6_161 : CsV RX6 161 yX6_isCutHere cX6_isCutHere 4 (some .boolean) 3 := csV_of mm_1189 mm_1191 mm_59 mm_71 mm_1192 (by decide +kernel)
theorem cs_X6_169 : CsV RX6 169 yX6_refused cX6_refused 2 (some .boolean) 1 := csV_of mm_962 mm_964 mm_29 mm_71 mm_965 (by decide +kernel)
theorem cs_X6_176 : CsV RX6 176 yX6_digit cX6_digit 5 (some .int) 2 := csV_of mm_982 mm_984 mm_32 mm_71 mm_985 (by decide +kernel)
theorem cs_X6_179 : CsV RX6 179 yX6_eat cX6_eat 3 (some .boolean) 1 := csV_of mm_978 mm_980 mm_31 mm_71 mm_981 (by decide +kernel)
theorem cs_X6_182 : CsV RX6 182 yX6_two cX6_two 5 (some .int) 2 := csV_of mm_986 mm_988 mm_33 mm_71 mm_989 (by decide +kernel)
theorem cs_X6_185 : CsV RX6 185 yX6_readCell cX6_readCell 4 (some .boolean) 2 := csV_of mm_990 mm_992 mm_34 mm_71 mm_993 (by decide +kernel)
theorem cs_X6_188 : CsV RX6 188 yX6_readAll cX6_readAll 3 (some .boolean) 0 := csV_of mm_974 mm_976 mm_30 mm_71 mm_977 (by decide +kernel)
theorem cs_X6_192 : CsS RX6 192 yX6_copyPage cX6_copyPage 5 none 4 := csS_of mm_1001 mm_1002 mm_71 mm_1003 (by decide +kernel)
theorem cs_X6_203 : CsS RX6 203 yX6_cellsLike cX6_cellsLike 6 (some .int) 2 := csS_of mm_1009 mm_1010 mm_71 mm_1011 (by decide +kernel)
theorem cs_X6_207 : CsS RX6 207 yX6_isStaff cX6_isStaff 2 (some .boolean) 2 := csS_of mm_1020 mm_1021 mm_71 mm_1022 (by decide +kernel)
theorem cs_X6_211 : CsS RX6 211 yX6_isBeat cX6_isBeat 2 (some .boolean) 2 := csS_of mm_1023 mm_1024 mm_71 mm_1025 (by decide +kernel)
theorem cs_X6_214 : CsS RX6 214 yX6_isCell cX6_isCell 3 (some .boolean) 3 := csS_of mm_1017 mm_1018 mm_71 mm_1019 (by decide +kernel)
theorem cs_X6_217 : CsS RX6 217 yX6_isSetting cX6_isSetting 4 (some .boolean) 2 := csS_of mm_1038 mm_1039 mm_71 mm_1040 (by decide +kernel)
theorem cs_X6_220 : CsV RX6 220 yX6_remember cX6_remember 2 none 0 := csV_of mm_1042 mm_1044 mm_37 mm_71 mm_1045 (by decide +kernel)
theorem cs_X6_223 : CsS RX6 223 yX6_mend cX6_mend 4 none 1 := csS_of mm_1057 mm_1058 mm_71 mm_1059 (by decide +kernel)
theorem cs_X6_228 : CsS RX6 228 yX6_canWrite cX6_canWrite 4 (some .boolean) 4 := csS_of mm_1051 mm_1052 mm_71 mm_1053 (by decide +kernel)
theorem cs_X6_231 : CsS RX6 231 yX6_put cX6_put 4 none 4 := csS_of mm_1054 mm_1055 mm_71 mm_1056 (by decide +kernel)
theorem cs_X6_237 : CsS RX6 237 yX6_canShift cX6_canShift 6 (some .boolean) 3 := csS_of mm_1065 mm_1066 mm_71 mm_1067 (by decide +kernel)
theorem cs_X6_240 : CsS RX6 240 yX6_shift cX6_shift 6 (some .int) 3 := csS_of mm_1068 mm_1069 mm_71 mm_1070 (by decide +kernel)
theorem cs_X6_244 : CsS RX6 244 yX6_swap cX6_swap 7 (some .int) 3 := csS_of mm_1075 mm_1076 mm_71 mm_1077 (by decide +kernel)
theorem cs_X6_247 : CsS RX6 247 yX6_dropBeat cX6_dropBeat 4 none 2 := csS_of mm_1090 mm_1091 mm_71 mm_1092 (by decide +kernel)
theorem cs_X6_256 : CsV RX6 256 yX6_wholeOf cX6_wholeOf 8 (some .int) 2 := csV_of mm_1211 mm_1213 mm_61 mm_71 mm_1214 (by decide +kernel)
theorem cs_X6_259 : CsV RX6 259 yX6_writes cX6_writes 4 (some .boolean) 3 := csV_of mm_1242 mm_1244 mm_63 mm_71 mm_1245 (by decide +kernel)
theorem cs_X6_269 : CsV RX6 269 yX6_does cX6_does 5 (some .boolean) 4 := csV_of mm_1238 mm_1240 mm_62 mm_71 mm_1241 (by decide +kernel)
theorem ma_X0_82 : MaK RX0 82 := ⟨by decide +kernel, by decide +kernel, by decide +kernel, by decide +kernel⟩
