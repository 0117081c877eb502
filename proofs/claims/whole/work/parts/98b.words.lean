/-! WORDS OF THE CONSTRUCTORS, CALLS WHILE THE WORLD GROWS -/
theorem wt_65 : Cond.initialized "HandSpans" ∈ TW := tw_in mm_65 rfl
theorem wt_66 : Cond.initialized "HandSpans$Text" ∈ TW := tw_in mm_66 rfl
theorem wt_67 : Cond.initialized "HandSpans$State" ∈ TW := tw_in mm_67 rfl
theorem wt_68 : Cond.initialized "HandSpans$Reduction" ∈ TW := tw_in mm_68 rfl
theorem wt_69 : Cond.initialized "HandSpans$Chord" ∈ TW := tw_in mm_69 rfl
theorem wt_70 : Cond.initialized "HandSpans$History" ∈ TW := tw_in mm_70 rfl
theorem wt_71 : Cond.initialized "HandSpansModel" ∈ TW := tw_in mm_71 rfl
theorem wt_72 : Cond.initialized "java/lang/Throwable" ∈ TW := tw_in (List.mem_of_getElem? (i := 72) (by decide +kernel)) rfl
theorem wt_80 : Cond.classLink "HandSpansLaw" (8 : Nat) "HandSpans" ∈ TW := tw_in (List.mem_of_getElem? (i := 80) (by decide +kernel)) rfl
theorem wt_81 : Cond.instantiable "HandSpans" (7 : Nat) ∈ TW := tw_in (List.mem_of_getElem? (i := 81) (by decide +kernel)) rfl
theorem wt_82 : Cond.methodLink "HandSpansLaw" (89 : Nat) ({ cls := "HandSpans", name := "<init>", desc := "()V" } : MethodName) ∈ TW := tw_in (List.mem_of_getElem? (i := 82) (by decide +kernel)) rfl
theorem wt_83 : Cond.instanceMethod ({ cls := "HandSpans", name := "<init>", desc := "()V" } : MethodName) ∈ TW := tw_in (List.mem_of_getElem? (i := 83) (by decide +kernel)) rfl
theorem wt_84 : Cond.code ({ cls := "HandSpans", name := "<init>", desc := "()V" } : MethodName) prog_1_method_1_code (2 : Nat) (Option.none : Option FieldType) ∈ TW := tw_in (List.mem_of_getElem? (i := 84) (by decide +kernel)) rfl
theorem wt_85 : Cond.methodLink "HandSpans" (3 : Nat) ({ cls := "java/lang/Object", name := "<init>", desc := "()V" } : MethodName) ∈ TW := tw_in (List.mem_of_getElem? (i := 85) (by decide +kernel)) rfl
theorem wt_88 : Cond.classLink "HandSpans" (9 : Nat) "HandSpans$Text" ∈ TW := tw_in (List.mem_of_getElem? (i := 88) (by decide +kernel)) rfl
theorem wt_89 : Cond.instantiable "HandSpans$Text" (3 : Nat) ∈ TW := tw_in (List.mem_of_getElem? (i := 89) (by decide +kernel)) rfl
theorem wt_90 : Cond.methodLinkNest "HandSpans" (11 : Nat) ({ cls := "HandSpans$Text", name := "<init>", desc := "()V" } : MethodName) "HandSpans" ∈ TW := tw_in (List.mem_of_getElem? (i := 90) (by decide +kernel)) rfl
theorem wt_91 : Cond.instanceMethod ({ cls := "HandSpans$Text", name := "<init>", desc := "()V" } : MethodName) ∈ TW := tw_in (List.mem_of_getElem? (i := 91) (by decide +kernel)) rfl
theorem wt_92 : Cond.code ({ cls := "HandSpans$Text", name := "<init>", desc := "()V" } : MethodName) prog_6_method_1_code (1 : Nat) (Option.none : Option FieldType) ∈ TW := tw_in (List.mem_of_getElem? (i := 92) (by decide +kernel)) rfl
theorem wt_93 : Cond.methodLink "HandSpans$Text" (3 : Nat) ({ cls := "java/lang/Object", name := "<init>", desc := "()V" } : MethodName) ∈ TW := tw_in (List.mem_of_getElem? (i := 93) (by decide +kernel)) rfl
theorem wt_94 : Cond.fieldLink "HandSpans$Text" (9 : Nat) "HandSpans$Text" "signs" "[C" ∈ TW := tw_in mm_94 rfl
theorem wt_105 : Cond.classLink "HandSpans" (16 : Nat) "HandSpans$State" ∈ TW := tw_in (List.mem_of_getElem? (i := 105) (by decide +kernel)) rfl
theorem wt_106 : Cond.instantiable "HandSpans$State" (4 : Nat) ∈ TW := tw_in (List.mem_of_getElem? (i := 106) (by decide +kernel)) rfl
theorem wt_107 : Cond.methodLink "HandSpans" (18 : Nat) ({ cls := "HandSpans$State", name := "<init>", desc := "()V" } : MethodName) ∈ TW := tw_in (List.mem_of_getElem? (i := 107) (by decide +kernel)) rfl
theorem wt_108 : Cond.instanceMethod ({ cls := "HandSpans$State", name := "<init>", desc := "()V" } : MethodName) ∈ TW := tw_in (List.mem_of_getElem? (i := 108) (by decide +kernel)) rfl
theorem wt_109 : Cond.code ({ cls := "HandSpans$State", name := "<init>", desc := "()V" } : MethodName) prog_5_method_1_code (1 : Nat) (Option.none : Option FieldType) ∈ TW := tw_in (List.mem_of_getElem? (i := 109) (by decide +kernel)) rfl
theorem wt_110 : Cond.methodLink "HandSpans$State" (3 : Nat) ({ cls := "java/lang/Object", name := "<init>", desc := "()V" } : MethodName) ∈ TW := tw_in (List.mem_of_getElem? (i := 110) (by decide +kernel)) rfl
theorem wt_111 : Cond.methodLink "HandSpans$State" (18 : Nat) ({ cls := "HandSpans$State", name := "becomeRests", desc := "(II)V" } : MethodName) ∈ TW := tw_in (List.mem_of_getElem? (i := 111) (by decide +kernel)) rfl
theorem wt_115 : Cond.methodLink "HandSpans$State" (22 : Nat) ({ cls := "HandSpans$State", name := "resetSettings", desc := "()V" } : MethodName) ∈ TW := tw_in (List.mem_of_getElem? (i := 115) (by decide +kernel)) rfl
theorem wt_112 : Cond.instanceMethod ({ cls := "HandSpans$State", name := "becomeRests", desc := "(II)V" } : MethodName) ∈ TW := tw_in mm_112 rfl
theorem wt_113 : Cond.selects "HandSpans$State" ({ cls := "HandSpans$State", name := "becomeRests", desc := "(II)V" } : MethodName) ({ cls := "HandSpans$State", name := "becomeRests", desc := "(II)V" } : MethodName) ∈ TW := tw_in mm_113 rfl
theorem wt_114 : Cond.code ({ cls := "HandSpans$State", name := "becomeRests", desc := "(II)V" } : MethodName) prog_5_method_2_code (4 : Nat) (Option.none : Option FieldType) ∈ TW := tw_in mm_114 rfl
theorem wt_116 : Cond.instanceMethod ({ cls := "HandSpans$State", name := "resetSettings", desc := "()V" } : MethodName) ∈ TW := tw_in mm_116 rfl
theorem wt_117 : Cond.selects "HandSpans$State" ({ cls := "HandSpans$State", name := "resetSettings", desc := "()V" } : MethodName) ({ cls := "HandSpans$State", name := "resetSettings", desc := "()V" } : MethodName) ∈ TW := tw_in mm_117 rfl
theorem wt_118 : Cond.code ({ cls := "HandSpans$State", name := "resetSettings", desc := "()V" } : MethodName) prog_5_method_3_code (2 : Nat) (Option.none : Option FieldType) ∈ TW := tw_in mm_118 rfl
theorem wt_121 : Cond.fieldLink "HandSpans$State" (9 : Nat) "HandSpans$State" "settings" "[I" ∈ TW := tw_in mm_121 rfl
theorem wt_122 : Cond.fieldLink "HandSpans$State" (15 : Nat) "HandSpans$State" "cells" "[I" ∈ TW := tw_in mm_122 rfl
theorem wt_139 : Cond.classLink "HandSpans" (26 : Nat) "HandSpans$Reduction" ∈ TW := tw_in (List.mem_of_getElem? (i := 139) (by decide +kernel)) rfl
theorem wt_140 : Cond.instantiable "HandSpans$Reduction" (5 : Nat) ∈ TW := tw_in (List.mem_of_getElem? (i := 140) (by decide +kernel)) rfl
theorem wt_141 : Cond.methodLink "HandSpans" (28 : Nat) ({ cls := "HandSpans$Reduction", name := "<init>", desc := "()V" } : MethodName) ∈ TW := tw_in (List.mem_of_getElem? (i := 141) (by decide +kernel)) rfl
theorem wt_142 : Cond.instanceMethod ({ cls := "HandSpans$Reduction", name := "<init>", desc := "()V" } : MethodName) ∈ TW := tw_in (List.mem_of_getElem? (i := 142) (by decide +kernel)) rfl
theorem wt_143 : Cond.code ({ cls := "HandSpans$Reduction", name := "<init>", desc := "()V" } : MethodName) prog_4_method_1_code (2 : Nat) (Option.none : Option FieldType) ∈ TW := tw_in (List.mem_of_getElem? (i := 143) (by decide +kernel)) rfl
theorem wt_144 : Cond.methodLink "HandSpans$Reduction" (3 : Nat) ({ cls := "java/lang/Object", name := "<init>", desc := "()V" } : MethodName) ∈ TW := tw_in (List.mem_of_getElem? (i := 144) (by decide +kernel)) rfl
theorem wt_145 : Cond.classLink "HandSpans$Reduction" (9 : Nat) "HandSpans$Chord" ∈ TW := tw_in (List.mem_of_getElem? (i := 145) (by decide +kernel)) rfl
theorem wt_146 : Cond.arrayOver (FieldType.object "HandSpans$Chord") ∈ TW := tw_in (List.mem_of_getElem? (i := 146) (by decide +kernel)) rfl
theorem wt_147 : Cond.instantiable "HandSpans$Chord" (14 : Nat) ∈ TW := tw_in (List.mem_of_getElem? (i := 147) (by decide +kernel)) rfl
theorem wt_148 : Cond.methodLink "HandSpans$Reduction" (17 : Nat) ({ cls := "HandSpans$Chord", name := "<init>", desc := "()V" } : MethodName) ∈ TW := tw_in (List.mem_of_getElem? (i := 148) (by decide +kernel)) rfl
theorem wt_149 : Cond.instanceMethod ({ cls := "HandSpans$Chord", name := "<init>", desc := "()V" } : MethodName) ∈ TW := tw_in (List.mem_of_getElem? (i := 149) (by decide +kernel)) rfl
theorem wt_150 : Cond.code ({ cls := "HandSpans$Chord", name := "<init>", desc := "()V" } : MethodName) prog_2_method_1_code (3 : Nat) (Option.none : Option FieldType) ∈ TW := tw_in (List.mem_of_getElem? (i := 150) (by decide +kernel)) rfl
theorem wt_151 : Cond.methodLink "HandSpans$Chord" (3 : Nat) ({ cls := "java/lang/Object", name := "<init>", desc := "()V" } : MethodName) ∈ TW := tw_in (List.mem_of_getElem? (i := 151) (by decide +kernel)) rfl
theorem wt_152 : Cond.classLink "HandSpans$Chord" (27 : Nat) "[[I" ∈ TW := tw_in (List.mem_of_getElem? (i := 152) (by decide +kernel)) rfl
theorem wt_154 : Cond.fieldLink "HandSpans$Chord" (9 : Nat) "HandSpans$Chord" "spans" "[I" ∈ TW := tw_in mm_154 rfl
theorem wt_158 : Cond.fieldLink "HandSpans$Chord" (15 : Nat) "HandSpans$Chord" "pitches" "[I" ∈ TW := tw_in mm_158 rfl
theorem wt_159 : Cond.fieldLink "HandSpans$Chord" (18 : Nat) "HandSpans$Chord" "reasons" "[I" ∈ TW := tw_in mm_159 rfl
theorem wt_165 : Cond.fieldLink "HandSpans$Chord" (21 : Nat) "HandSpans$Chord" "rising" "[I" ∈ TW := tw_in mm_165 rfl
theorem wt_170 : Cond.fieldLink "HandSpans$Chord" (24 : Nat) "HandSpans$Chord" "leftStaves" "[I" ∈ TW := tw_in mm_170 rfl
theorem wt_171 : Cond.fieldLink "HandSpans$Chord" (29 : Nat) "HandSpans$Chord" "positions" "[[I" ∈ TW := tw_in mm_171 rfl
theorem wt_173 : Cond.fieldLink "HandSpans$Chord" (32 : Nat) "HandSpans$Chord" "widths" "[[I" ∈ TW := tw_in mm_173 rfl
theorem wt_204 : Cond.classLink "HandSpans$Reduction" (26 : Nat) "[[I" ∈ TW := tw_in (List.mem_of_getElem? (i := 204) (by decide +kernel)) rfl
theorem wt_205 : Cond.fieldLink "HandSpans$Reduction" (11 : Nat) "HandSpans$Reduction" "chords" "[LHandSpans$Chord;" ∈ TW := tw_in mm_205 rfl
theorem wt_206 : Cond.fieldLink "HandSpans$Reduction" (18 : Nat) "HandSpans$Reduction" "silence" "LHandSpans$Chord;" ∈ TW := tw_in mm_206 rfl
theorem wt_207 : Cond.fieldLink "HandSpans$Reduction" (22 : Nat) "HandSpans$Reduction" "splits" "[I" ∈ TW := tw_in mm_207 rfl
theorem wt_208 : Cond.fieldLink "HandSpans$Reduction" (28 : Nat) "HandSpans$Reduction" "ahead" "[[I" ∈ TW := tw_in mm_208 rfl
theorem wt_221 : Cond.classLink "HandSpans" (33 : Nat) "HandSpans$History" ∈ TW := tw_in (List.mem_of_getElem? (i := 221) (by decide +kernel)) rfl
theorem wt_222 : Cond.instantiable "HandSpans$History" (3 : Nat) ∈ TW := tw_in (List.mem_of_getElem? (i := 222) (by decide +kernel)) rfl
theorem wt_223 : Cond.methodLink "HandSpans" (35 : Nat) ({ cls := "HandSpans$History", name := "<init>", desc := "()V" } : MethodName) ∈ TW := tw_in (List.mem_of_getElem? (i := 223) (by decide +kernel)) rfl
theorem wt_224 : Cond.instanceMethod ({ cls := "HandSpans$History", name := "<init>", desc := "()V" } : MethodName) ∈ TW := tw_in (List.mem_of_getElem? (i := 224) (by decide +kernel)) rfl
theorem wt_225 : Cond.code ({ cls := "HandSpans$History", name := "<init>", desc := "()V" } : MethodName) prog_3_method_1_code (2 : Nat) (Option.none : Option FieldType) ∈ TW := tw_in (List.mem_of_getElem? (i := 225) (by decide +kernel)) rfl
theorem wt_226 : Cond.methodLink "HandSpans$History" (3 : Nat) ({ cls := "java/lang/Object", name := "<init>", desc := "()V" } : MethodName) ∈ TW := tw_in (List.mem_of_getElem? (i := 226) (by decide +kernel)) rfl
theorem wt_227 : Cond.classLink "HandSpans$History" (9 : Nat) "HandSpans$State" ∈ TW := tw_in (List.mem_of_getElem? (i := 227) (by decide +kernel)) rfl
theorem wt_228 : Cond.arrayOver (FieldType.object "HandSpans$State") ∈ TW := tw_in (List.mem_of_getElem? (i := 228) (by decide +kernel)) rfl
theorem wt_229 : Cond.methodLink "HandSpans$History" (17 : Nat) ({ cls := "HandSpans$State", name := "<init>", desc := "()V" } : MethodName) ∈ TW := tw_in (List.mem_of_getElem? (i := 229) (by decide +kernel)) rfl
theorem wt_230 : Cond.fieldLink "HandSpans$History" (11 : Nat) "HandSpans$History" "ring" "[LHandSpans$State;" ∈ TW := tw_in mm_230 rfl
theorem wt_240 : Cond.fieldLink "HandSpans" (12 : Nat) "HandSpans" "text" "LHandSpans$Text;" ∈ TW := tw_in mm_240 rfl
theorem wt_241 : Cond.fieldLink "HandSpans" (19 : Nat) "HandSpans" "now" "LHandSpans$State;" ∈ TW := tw_in mm_241 rfl
theorem wt_242 : Cond.fieldLink "HandSpans" (23 : Nat) "HandSpans" "trial" "LHandSpans$State;" ∈ TW := tw_in mm_242 rfl
theorem wt_243 : Cond.fieldLink "HandSpans" (29 : Nat) "HandSpans" "reduction" "LHandSpans$Reduction;" ∈ TW := tw_in mm_243 rfl
theorem wt_244 : Cond.fieldLink "HandSpans" (36 : Nat) "HandSpans" "history" "LHandSpans$History;" ∈ TW := tw_in mm_244 rfl
theorem wt_245 : Cond.fieldLink "HandSpans" (40 : Nat) "HandSpans" "slots" "[LHandSpans$State;" ∈ TW := tw_in mm_245 rfl
theorem wt_246 : Cond.fieldLink "HandSpans" (44 : Nat) "HandSpans" "filled" "[Z" ∈ TW := tw_in mm_246 rfl
theorem wt_883 : Cond.classLink "HandSpansLaw" (90 : Nat) "HandSpansModel" ∈ TW := tw_in (List.mem_of_getElem? (i := 883) (by decide +kernel)) rfl
theorem wt_884 : Cond.instantiable "HandSpansModel" (19 : Nat) ∈ TW := tw_in (List.mem_of_getElem? (i := 884) (by decide +kernel)) rfl
theorem wt_885 : Cond.methodLink "HandSpansLaw" (92 : Nat) ({ cls := "HandSpansModel", name := "<init>", desc := "()V" } : MethodName) ∈ TW := tw_in (List.mem_of_getElem? (i := 885) (by decide +kernel)) rfl
theorem wt_886 : Cond.instanceMethod ({ cls := "HandSpansModel", name := "<init>", desc := "()V" } : MethodName) ∈ TW := tw_in (List.mem_of_getElem? (i := 886) (by decide +kernel)) rfl
theorem wt_887 : Cond.code ({ cls := "HandSpansModel", name := "<init>", desc := "()V" } : MethodName) prog_8_method_1_code (1 : Nat) (Option.none : Option FieldType) ∈ TW := tw_in (List.mem_of_getElem? (i := 887) (by decide +kernel)) rfl
theorem wt_888 : Cond.methodLink "HandSpansModel" (1 : Nat) ({ cls := "java/lang/Object", name := "<init>", desc := "()V" } : MethodName) ∈ TW := tw_in (List.mem_of_getElem? (i := 888) (by decide +kernel)) rfl
theorem wt_889 : Cond.methodLink "HandSpansModel" (56 : Nat) ({ cls := "HandSpansModel", name := "begin", desc := "([I)V" } : MethodName) ∈ TW := tw_in mm_889 rfl
theorem wt_890 : Cond.static ({ cls := "HandSpansModel", name := "begin", desc := "([I)V" } : MethodName) ∈ TW := tw_in mm_890 rfl
theorem wt_891 : Cond.code ({ cls := "HandSpansModel", name := "begin", desc := "([I)V" } : MethodName) prog_8_method_6_code (2 : Nat) (Option.none : Option FieldType) ∈ TW := tw_in mm_891 rfl
theorem wt_893 : Cond.fieldLink "HandSpansModel" (7 : Nat) "HandSpansModel" "text" "[I" ∈ TW := tw_in mm_893 rfl
theorem wt_896 : Cond.fieldLink "HandSpansModel" (13 : Nat) "HandSpansModel" "read" "[I" ∈ TW := tw_in mm_896 rfl
theorem wt_897 : Cond.fieldLink "HandSpansModel" (16 : Nat) "HandSpansModel" "now" "[I" ∈ TW := tw_in mm_897 rfl
theorem wt_898 : Cond.fieldLink "HandSpansModel" (19 : Nat) "HandSpansModel" "trial" "[I" ∈ TW := tw_in mm_898 rfl
theorem wt_899 : Cond.fieldLink "HandSpansModel" (22 : Nat) "HandSpansModel" "other" "[I" ∈ TW := tw_in mm_899 rfl
theorem wt_900 : Cond.fieldLink "HandSpansModel" (25 : Nat) "HandSpansModel" "diary" "[I" ∈ TW := tw_in mm_900 rfl
theorem wt_902 : Cond.fieldLink "HandSpansModel" (28 : Nat) "HandSpansModel" "kept" "[I" ∈ TW := tw_in mm_902 rfl
theorem wt_903 : Cond.fieldLink "HandSpansModel" (31 : Nat) "HandSpansModel" "isKept" "[Z" ∈ TW := tw_in mm_903 rfl
theorem wt_904 : Cond.fieldLink "HandSpansModel" (35 : Nat) "HandSpansModel" "sound" "[I" ∈ TW := tw_in mm_904 rfl
theorem wt_905 : Cond.fieldLink "HandSpansModel" (38 : Nat) "HandSpansModel" "reason" "[I" ∈ TW := tw_in mm_905 rfl
theorem wt_906 : Cond.fieldLink "HandSpansModel" (41 : Nat) "HandSpansModel" "row" "[I" ∈ TW := tw_in mm_906 rfl
theorem wt_907 : Cond.fieldLink "HandSpansModel" (44 : Nat) "HandSpansModel" "rowMany" "[I" ∈ TW := tw_in mm_907 rfl
theorem wt_908 : Cond.fieldLink "HandSpansModel" (47 : Nat) "HandSpansModel" "possible" "[I" ∈ TW := tw_in mm_908 rfl
theorem wt_909 : Cond.fieldLink "HandSpansModel" (50 : Nat) "HandSpansModel" "split" "[I" ∈ TW := tw_in mm_909 rfl
theorem wt_910 : Cond.fieldLink "HandSpansModel" (53 : Nat) "HandSpansModel" "ahead" "[I" ∈ TW := tw_in mm_910 rfl
theorem kX5_X4_11 : CsIN RX5 11 yX4_init cX4_init 1 := ⟨⟨good1 wt_92 rfl, wt_66, wt_90, wt_91⟩, rfl, by decide +kernel⟩
theorem kX5_X3_18 : CsI RX5 18 yX3_init cX3_init 1 := ⟨⟨good1 wt_109 rfl, wt_67, wt_107, wt_108⟩, rfl, by decide +kernel⟩
theorem kX5_X2_28 : CsI RX5 28 yX2_init cX2_init 2 := ⟨⟨good1 wt_143 rfl, wt_68, wt_141, wt_142⟩, rfl, by decide +kernel⟩
theorem kX5_X1_35 : CsI RX5 35 yX1_init cX1_init 2 := ⟨⟨good1 wt_225 rfl, wt_70, wt_223, wt_224⟩, rfl, by decide +kernel⟩
theorem kX2_X0_17 : CsI RX2 17 yX0_init cX0_init 3 := ⟨⟨good1 wt_150 rfl, wt_69, wt_148, wt_149⟩, rfl, by decide +kernel⟩
theorem kX1_X3_17 : CsI RX1 17 yX3_init cX3_init 1 := ⟨⟨good1 wt_109 rfl, wt_67, wt_229, wt_108⟩, rfl, by decide +kernel⟩
theorem uw_X3_becomeRests_b12 {X : XX} {G : GG} {Z : ZZ} {qq : Nat} {r : Unit} {M' : Mem} (hC : Cx X G RX3 cX3_becomeRests none 0 0 0 4) (hz : ZOk G Z) (H0 : ∀ q, q < 18 → q = qq → At Z (iSt q) (dSt q) ∧ At Z (iSt q + 1) (dA 0 6) ∧ At Z (iSt q + 2) (dA 0 64)) (q0 : Nat) (hq0 : q0 < 18) (hqq : q0 = qq) (k12 : Int32 → Mem → Option (Unit × Mem)) (hk12 : ∀ (u3 : Int32) (M : Mem), k12 u3 M = some (r, M') → V X G Z M 0 0 (QN X G (QcV G Z r M') 0 0) 12 [(0, .ref (Z.1 (iSt q0))), (3, .int u3)] []) (v3 : Int32) (M : Mem) (hf : f_X3_becomeRests_b12 q0 k12 v3 M = some (r, M')) : V X G Z M 0 0 (QN X G (QcV G Z r M') 0 0) 12 [(0, .ref (Z.1 (iSt q0))), (3, .int v3)] [] := by
  unfold f_X3_becomeRests_b12 at hf
  refine r_iload_n hC dX3_becomeRests_12 1 rfl ?_
  refine r_aload_n hC dX3_becomeRests_13 0 rfl ?_
  refine gf_X3_15 hC ((H0 q0 hq0 hqq).1) rfl dX3_becomeRests_14 ?_
  refine r_alen (v := 64) hC ((H0 q0 hq0 hqq).2.2) rfl dX3_becomeRests_17 ?_
  refine r_icmp_ge 35 hC dX3_becomeRests_18 (by decide) (fun h => ?_) (fun h => ?_)
  · have hf := if_T hf h
    exact r_vret hf hC (by decide) (by decide) dX3_becomeRests_35
  · have hf := if_F hf h
    refine r_aload_n hC dX3_becomeRests_21 0 rfl ?_
    refine gf_X3_15 hC ((H0 q0 hq0 hqq).1) rfl dX3_becomeRests_22 ?_
    refine r_iload_n hC dX3_becomeRests_25 1 rfl ?_
    refine r_bipush (v := (-9)) hC dX3_becomeRests_26 rfl ?_
    have hin := if_K hf
    have hf := if_V hf
    refine r_iast hC hz ((H0 q0 hq0 hqq).2.2) (inb_vp hin) dX3_becomeRests_28 ?_
    refine r_iinc (v := v3 + 1) (L' := [(3, .int (v3 + 1)), (0, .ref (Z.1 (iSt q0)))]) hC dX3_becomeRests_29 1 rfl rfl (by decide) rfl ?_
    refine r_goto 12 hC dX3_becomeRests_32 (by decide) ?_
    refine r_L [1, 0] rfl ?_
    exact hk12 _ _ hf
theorem uw_X3_becomeRests {X : XX} {G : GG} {Z : ZZ} {qq : Nat} (hC : Cx X G RX3 cX3_becomeRests none 0 0 0 4) (hz : ZOk G Z) (H0 : ∀ q, q < 18 → q = qq → At Z (iSt q) (dSt q) ∧ At Z (iSt q + 1) (dA 0 6) ∧ At Z (iSt q + 2) (dA 0 64)) (q0 : Nat) (v1 : Int32) (v2 : Int32) (M : Mem) (hq0 : q0 < 18) (hqq : q0 = qq) {r : Unit} {M' : Mem} (hf : f_X3_becomeRests q0 v1 v2 M = some (r, M')) : V X G Z M 0 0 (QN X G (QcV G Z r M') 0 0) 0 [(0, .ref (Z.1 (iSt q0))), (1, .int v1), (2, .int v2)] [] := by
  unfold f_X3_becomeRests at hf
  refine r_aload_n hC dX3_becomeRests_0 0 rfl ?_
  refine r_iload_n hC dX3_becomeRests_1 1 rfl ?_
  refine pf_X3_25 hC hz ((H0 q0 hq0 hqq).1) rfl dX3_becomeRests_2 ?_
  refine r_aload_n hC dX3_becomeRests_5 0 rfl ?_
  refine r_iload_n hC dX3_becomeRests_6 2 rfl ?_
  refine pf_X3_29 hC hz ((H0 q0 hq0 hqq).1) rfl dX3_becomeRests_7 ?_
  refine r_iconst (v := 0) hC dX3_becomeRests_10 rfl ?_
  refine r_istore_n (L' := [(3, .int 0), (0, .ref (Z.1 (iSt q0))), (1, .int v1), (2, .int v2)]) hC dX3_becomeRests_11 (by decide) rfl ?_
  refine r_L [1, 0] rfl ?_
  exact lq1_ind (P := fun (u3 : Int32) (M : Mem) => V X G Z M 0 0 (QN X G (QcV G Z r M') 0 0) 12 [(0, .ref (Z.1 (iSt q0))), (3, .int u3)] []) (fun kk hkk u3 M hf => uw_X3_becomeRests_b12 hC hz H0 q0 hq0 hqq kk hkk u3 M hf) _ _ _ hf
theorem uc_X3_becomeRests {l : Launch} (hl : l.stackTraces = false) {G : GG} {Z : ZZ} {qq : Nat} (hz : ZOk G Z) (H0 : ∀ q, q < 18 → q = qq → At Z (iSt q) (dSt q) ∧ At Z (iSt q + 1) (dA 0 6) ∧ At Z (iSt q + 2) (dA 0 64)) (q0 : Nat) (v1 : Int32) (v2 : Int32) (M : Mem) (hq0 : q0 < 18) (hqq : q0 = qq) (r : Unit) (M' : Mem) (hf : f_X3_becomeRests q0 v1 v2 M = some (r, M')) : CN (QcV G Z r M') l G Z yX3_becomeRests cX3_becomeRests 4 none 0 [.ref (Z.1 (iSt q0)), .int v1, .int v2] M :=
  CN.of [(0, .ref (Z.1 (iSt q0))), (1, .int v1), (2, .int v2)] hl (by decide +kernel) (Nat.le_of_ble_eq_true rfl) rfl (fun _ hC => uw_X3_becomeRests hC hz H0 q0 v1 v2 M hq0 hqq hf)
theorem uw_X3_resetSettings_b2 {X : XX} {G : GG} {Z : ZZ} {qq : Nat} {r : Unit} {M' : Mem} (hC : Cx X G RX3 cX3_resetSettings none 0 0 0 2) (hz : ZOk G Z) (H0 : ∀ q, q < 18 → q = qq → At Z (iSt q) (dSt q) ∧ At Z (iSt q + 1) (dA 0 6) ∧ At Z (iSt q + 2) (dA 0 64)) (q0 : Nat) (hq0 : q0 < 18) (hqq : q0 = qq) (k2 : Int32 → Mem → Option (Unit × Mem)) (hk2 : ∀ (u1 : Int32) (M : Mem), k2 u1 M = some (r, M') → V X G Z M 0 0 (QN X G (QcV G Z r M') 0 0) 2 [(0, .ref (Z.1 (iSt q0))), (1, .int u1)] []) (v1 : Int32) (M : Mem) (hf : f_X3_resetSettings_b2 q0 k2 v1 M = some (r, M')) : V X G Z M 0 0 (QN X G (QcV G Z r M') 0 0) 2 [(0, .ref (Z.1 (iSt q0))), (1, .int v1)] [] := by
  unfold f_X3_resetSettings_b2 at hf
  refine r_iload_n hC dX3_resetSettings_2 1 rfl ?_
  refine r_bipush (v := 6) hC dX3_resetSettings_3 rfl ?_
  refine r_icmp_ge 25 hC dX3_resetSettings_5 (by decide) (fun h => ?_) (fun h => ?_)
  · have hf := if_T hf h
    exact r_vret hf hC (by decide) (by decide) dX3_resetSettings_25
  · have hf := if_F hf h
    refine r_aload_n hC dX3_resetSettings_8 0 rfl ?_
    refine gf_X3_9 hC ((H0 q0 hq0 hqq).1) rfl dX3_resetSettings_9 ?_
    refine r_iload_n hC dX3_resetSettings_12 1 rfl ?_
    refine r_gets (j := 0) (nm := "SETTING_AT_FIRST") (f := fun _ => .null) (fun h => h.1.1) hC kw_X3_32 dX3_resetSettings_13 ?_
    refine r_iload_n hC dX3_resetSettings_16 1 rfl ?_
    have hin := if_K hf
    have hf := if_V hf
    refine r_tald (f := fun k => sa_first.getD k 0) (fun h => h.1.2) hC (inb_vp hin) rfl dX3_resetSettings_17 ?_
    have hin := if_K hf
    have hf := if_V hf
    refine r_iast hC hz ((H0 q0 hq0 hqq).2.1) (inb_vp hin) dX3_resetSettings_18 ?_
    refine r_iinc (v := v1 + 1) (L' := [(1, .int (v1 + 1)), (0, .ref (Z.1 (iSt q0)))]) hC dX3_resetSettings_19 1 rfl rfl (by decide) rfl ?_
    refine r_goto 2 hC dX3_resetSettings_22 (by decide) ?_
    refine r_L [1, 0] rfl ?_
    exact hk2 _ _ hf
theorem uw_X3_resetSettings {X : XX} {G : GG} {Z : ZZ} {qq : Nat} (hC : Cx X G RX3 cX3_resetSettings none 0 0 0 2) (hz : ZOk G Z) (H0 : ∀ q, q < 18 → q = qq → At Z (iSt q) (dSt q) ∧ At Z (iSt q + 1) (dA 0 6) ∧ At Z (iSt q + 2) (dA 0 64)) (q0 : Nat) (M : Mem) (hq0 : q0 < 18) (hqq : q0 = qq) {r : Unit} {M' : Mem} (hf : f_X3_resetSettings q0 M = some (r, M')) : V X G Z M 0 0 (QN X G (QcV G Z r M') 0 0) 0 [(0, .ref (Z.1 (iSt q0)))] [] := by
  unfold f_X3_resetSettings at hf
  refine r_iconst (v := 0) hC dX3_resetSettings_0 rfl ?_
  refine r_istore_n (L' := [(1, .int 0), (0, .ref (Z.1 (iSt q0)))]) hC dX3_resetSettings_1 (by decide) rfl ?_
  refine r_L [1, 0] rfl ?_
  exact lq1_ind (P := fun (u1 : Int32) (M : Mem) => V X G Z M 0 0 (QN X G (QcV G Z r M') 0 0) 2 [(0, .ref (Z.1 (iSt q0))), (1, .int u1)] []) (fun kk hkk u1 M hf => uw_X3_resetSettings_b2 hC hz H0 q0 hq0 hqq kk hkk u1 M hf) _ _ _ hf
theorem uc_X3_resetSettings {l : Launch} (hl : l.stackTraces = false) {G : GG} {Z : ZZ} {qq : Nat} (hz : ZOk G Z) (H0 : ∀ q, q < 18 → q = qq → At Z (iSt q) (dSt q) ∧ At Z (iSt q + 1) (dA 0 6) ∧ At Z (iSt q + 2) (dA 0 64)) (q0 : Nat) (M : Mem) (hq0 : q0 < 18) (hqq : q0 = qq) (r : Unit) (M' : Mem) (hf : f_X3_resetSettings q0 M = some (r, M')) : CN (QcV G Z r M') l G Z yX3_resetSettings cX3_resetSettings 2 none 0 [.ref (Z.1 (iSt q0))] M :=
  CN.of [(0, .ref (Z.1 (iSt q0)))] hl (by decide +kernel) (Nat.le_of_ble_eq_true rfl) rfl (fun _ hC => uw_X3_resetSettings hC hz H0 q0 M hq0 hqq hf)
theorem uw_X6_begin_b29 {X : XX} {G : GG} {Z : ZZ} {r : Unit} {M' : Mem} (hC : Cx X G RX6 cX6_begin none 0 0 0 2) (hz : ZOk G Z)  (r0 : Nat) (hr0 : At Z r0 (dA 0 (lnA r0))) (k29 : Int32 → Mem → Option (Unit × Mem)) (hk29 : ∀ (u1 : Int32) (M : Mem), k29 u1 M = some (r, M') → V X G Z M 0 0 (QN X G (QcV G Z r M') 0 0) 29 [(0, .ref (Z.1 r0)), (1, .int u1)] []) (v1 : Int32) (M : Mem) (hf : f_X6_begin_b29 r0 k29 v1 M = some (r, M')) : V X G Z M 0 0 (QN X G (QcV G Z r M') 0 0) 29 [(0, .ref (Z.1 r0)), (1, .int v1)] [] := by
  unfold f_X6_begin_b29 at hf
  refine r_iload_n hC dX6_begin_29 1 rfl ?_
  refine r_bipush (v := 72) hC dX6_begin_30 rfl ?_
  refine r_icmp_ge 46 hC dX6_begin_32 (by decide) (fun h => ?_) (fun h => ?_)
  · have hf := if_T hf h
    exact r_vret hf hC (by decide) (by decide) dX6_begin_46
  · have hf := if_F hf h
    refine r_aload_n hC dX6_begin_35 0 rfl ?_
    refine r_iload_n hC dX6_begin_36 1 rfl ?_
    refine r_bipush (v := (-9)) hC dX6_begin_37 rfl ?_
    have hin := if_K hf
    have hf := if_V hf
    refine r_iast hC hz hr0 (inb_vp hin) dX6_begin_39 ?_
    refine r_iinc (v := v1 + 1) (L' := [(1, .int (v1 + 1)), (0, .ref (Z.1 r0))]) hC dX6_begin_40 1 rfl rfl (by decide) rfl ?_
    refine r_goto 29 hC dX6_begin_43 (by decide) ?_
    refine r_L [1, 0] rfl ?_
    exact hk29 _ _ hf
theorem uw_X6_begin {X : XX} {G : GG} {Z : ZZ} (hC : Cx X G RX6 cX6_begin none 0 0 0 2) (hz : ZOk G Z)  (r0 : Nat) (M : Mem) (hr0 : At Z r0 (dA 0 (lnA r0))) {r : Unit} {M' : Mem} (hf : f_X6_begin r0 M = some (r, M')) : V X G Z M 0 0 (QN X G (QcV G Z r M') 0 0) 0 [(0, .ref (Z.1 r0))] [] := by
  unfold f_X6_begin at hf
  refine r_aload_n hC dX6_begin_0 0 rfl ?_
  refine r_iconst (v := 0) hC dX6_begin_1 rfl ?_
  refine r_bipush (v := 12) hC dX6_begin_2 rfl ?_
  have hin := if_K hf
  have hf := if_V hf
  refine r_iast hC hz hr0 (inb_vp hin) dX6_begin_4 ?_
  refine r_aload_n hC dX6_begin_5 0 rfl ?_
  refine r_iconst (v := 1) hC dX6_begin_6 rfl ?_
  refine r_bipush (v := 12) hC dX6_begin_7 rfl ?_
  have hin := if_K hf
  have hf := if_V hf
  refine r_iast hC hz hr0 (inb_vp hin) dX6_begin_9 ?_
  refine r_aload_n hC dX6_begin_10 0 rfl ?_
  refine r_iconst (v := 2) hC dX6_begin_11 rfl ?_
  refine r_iconst (v := 5) hC dX6_begin_12 rfl ?_
  have hin := if_K hf
  have hf := if_V hf
  refine r_iast hC hz hr0 (inb_vp hin) dX6_begin_13 ?_
  refine r_aload_n hC dX6_begin_14 0 rfl ?_
  refine r_iconst (v := 3) hC dX6_begin_15 rfl ?_
  refine r_iconst (v := 3) hC dX6_begin_16 rfl ?_
  have hin := if_K hf
  have hf := if_V hf
  refine r_iast hC hz hr0 (inb_vp hin) dX6_begin_17 ?_
  refine r_aload_n hC dX6_begin_18 0 rfl ?_
  refine r_iconst (v := 4) hC dX6_begin_19 rfl ?_
  refine r_iconst (v := 1) hC dX6_begin_20 rfl ?_
  have hin := if_K hf
  have hf := if_V hf
  refine r_iast hC hz hr0 (inb_vp hin) dX6_begin_21 ?_
  refine r_aload_n hC dX6_begin_22 0 rfl ?_
  refine r_iconst (v := 5) hC dX6_begin_23 rfl ?_
  refine r_iconst (v := 0) hC dX6_begin_24 rfl ?_
  have hin := if_K hf
  have hf := if_V hf
  refine r_iast hC hz hr0 (inb_vp hin) dX6_begin_25 ?_
  refine r_bipush (v := 8) hC dX6_begin_26 rfl ?_
  refine r_istore_n (L' := [(1, .int 8), (0, .ref (Z.1 r0))]) hC dX6_begin_28 (by decide) rfl ?_
  refine r_L [1, 0] rfl ?_
  exact lq1_ind (P := fun (u1 : Int32) (M : Mem) => V X G Z M 0 0 (QN X G (QcV G Z r M') 0 0) 29 [(0, .ref (Z.1 r0)), (1, .int u1)] []) (fun kk hkk u1 M hf => uw_X6_begin_b29 hC hz r0 hr0 kk hkk u1 M hf) _ _ _ hf
theorem uc_X6_begin {l : Launch} (hl : l.stackTraces = false) {G : GG} {Z : ZZ} (hz : ZOk G Z)  (r0 : Nat) (M : Mem) (hr0 : At Z r0 (dA 0 (lnA r0))) (r : Unit) (M' : Mem) (hf : f_X6_begin r0 M = some (r, M')) : CN (QcV G Z r M') l G Z yX6_begin cX6_begin 2 none 0 [.ref (Z.1 r0)] M :=
  CN.of [(0, .ref (Z.1 r0))] hl (by decide +kernel) (Nat.le_of_ble_eq_true rfl) rfl (fun _ hC => uw_X6_begin hC hz r0 M hr0 hf)
