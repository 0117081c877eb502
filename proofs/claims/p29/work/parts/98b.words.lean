/-! WORDS OF THE CONSTRUCTORS, CALLS WHILE THE WORLD GROWS -/
theorem wt_30 : Cond.initialized "HandSpans" ∈ TW := tw_in mm_30 rfl
theorem wt_31 : Cond.initialized "HandSpans$Text" ∈ TW := tw_in mm_31 rfl
theorem wt_32 : Cond.initialized "HandSpans$State" ∈ TW := tw_in mm_32 rfl
theorem wt_33 : Cond.initialized "HandSpans$Reduction" ∈ TW := tw_in mm_33 rfl
theorem wt_34 : Cond.initialized "HandSpans$Chord" ∈ TW := tw_in mm_34 rfl
theorem wt_35 : Cond.initialized "HandSpans$History" ∈ TW := tw_in mm_35 rfl
theorem wt_36 : Cond.initialized "java/lang/Throwable" ∈ TW := tw_in (List.mem_of_getElem? (i := 36) (by decide +kernel)) rfl
theorem wt_44 : Cond.classLink "HandSpansLaw" (8 : Nat) "HandSpans" ∈ TW := tw_in (List.mem_of_getElem? (i := 44) (by decide +kernel)) rfl
theorem wt_45 : Cond.instantiable "HandSpans" (7 : Nat) ∈ TW := tw_in (List.mem_of_getElem? (i := 45) (by decide +kernel)) rfl
theorem wt_47 : Cond.instanceMethod ({ cls := "HandSpans", name := "<init>", desc := "()V" } : MethodName) ∈ TW := tw_in (List.mem_of_getElem? (i := 47) (by decide +kernel)) rfl
theorem wt_48 : Cond.code ({ cls := "HandSpans", name := "<init>", desc := "()V" } : MethodName) prog_1_method_1_code (2 : Nat) (Option.none : Option FieldType) ∈ TW := tw_in (List.mem_of_getElem? (i := 48) (by decide +kernel)) rfl
theorem wt_49 : Cond.methodLink "HandSpans" (3 : Nat) ({ cls := "java/lang/Object", name := "<init>", desc := "()V" } : MethodName) ∈ TW := tw_in (List.mem_of_getElem? (i := 49) (by decide +kernel)) rfl
theorem wt_52 : Cond.classLink "HandSpans" (9 : Nat) "HandSpans$Text" ∈ TW := tw_in (List.mem_of_getElem? (i := 52) (by decide +kernel)) rfl
theorem wt_53 : Cond.instantiable "HandSpans$Text" (3 : Nat) ∈ TW := tw_in (List.mem_of_getElem? (i := 53) (by decide +kernel)) rfl
theorem wt_54 : Cond.methodLinkNest "HandSpans" (11 : Nat) ({ cls := "HandSpans$Text", name := "<init>", desc := "()V" } : MethodName) "HandSpans" ∈ TW := tw_in (List.mem_of_getElem? (i := 54) (by decide +kernel)) rfl
theorem wt_55 : Cond.instanceMethod ({ cls := "HandSpans$Text", name := "<init>", desc := "()V" } : MethodName) ∈ TW := tw_in (List.mem_of_getElem? (i := 55) (by decide +kernel)) rfl
theorem wt_56 : Cond.code ({ cls := "HandSpans$Text", name := "<init>", desc := "()V" } : MethodName) prog_6_method_1_code (1 : Nat) (Option.none : Option FieldType) ∈ TW := tw_in (List.mem_of_getElem? (i := 56) (by decide +kernel)) rfl
theorem wt_57 : Cond.methodLink "HandSpans$Text" (3 : Nat) ({ cls := "java/lang/Object", name := "<init>", desc := "()V" } : MethodName) ∈ TW := tw_in (List.mem_of_getElem? (i := 57) (by decide +kernel)) rfl
theorem wt_58 : Cond.fieldLink "HandSpans$Text" (9 : Nat) "HandSpans$Text" "signs" "[C" ∈ TW := tw_in mm_58 rfl
theorem wt_69 : Cond.classLink "HandSpans" (16 : Nat) "HandSpans$State" ∈ TW := tw_in (List.mem_of_getElem? (i := 69) (by decide +kernel)) rfl
theorem wt_70 : Cond.instantiable "HandSpans$State" (4 : Nat) ∈ TW := tw_in (List.mem_of_getElem? (i := 70) (by decide +kernel)) rfl
theorem wt_71 : Cond.methodLink "HandSpans" (18 : Nat) ({ cls := "HandSpans$State", name := "<init>", desc := "()V" } : MethodName) ∈ TW := tw_in (List.mem_of_getElem? (i := 71) (by decide +kernel)) rfl
theorem wt_72 : Cond.instanceMethod ({ cls := "HandSpans$State", name := "<init>", desc := "()V" } : MethodName) ∈ TW := tw_in (List.mem_of_getElem? (i := 72) (by decide +kernel)) rfl
theorem wt_73 : Cond.code ({ cls := "HandSpans$State", name := "<init>", desc := "()V" } : MethodName) prog_5_method_1_code (1 : Nat) (Option.none : Option FieldType) ∈ TW := tw_in (List.mem_of_getElem? (i := 73) (by decide +kernel)) rfl
theorem wt_74 : Cond.methodLink "HandSpans$State" (3 : Nat) ({ cls := "java/lang/Object", name := "<init>", desc := "()V" } : MethodName) ∈ TW := tw_in (List.mem_of_getElem? (i := 74) (by decide +kernel)) rfl
theorem wt_75 : Cond.methodLink "HandSpans$State" (18 : Nat) ({ cls := "HandSpans$State", name := "becomeRests", desc := "(II)V" } : MethodName) ∈ TW := tw_in (List.mem_of_getElem? (i := 75) (by decide +kernel)) rfl
theorem wt_79 : Cond.methodLink "HandSpans$State" (22 : Nat) ({ cls := "HandSpans$State", name := "resetSettings", desc := "()V" } : MethodName) ∈ TW := tw_in (List.mem_of_getElem? (i := 79) (by decide +kernel)) rfl
theorem wt_76 : Cond.instanceMethod ({ cls := "HandSpans$State", name := "becomeRests", desc := "(II)V" } : MethodName) ∈ TW := tw_in mm_76 rfl
theorem wt_77 : Cond.selects "HandSpans$State" ({ cls := "HandSpans$State", name := "becomeRests", desc := "(II)V" } : MethodName) ({ cls := "HandSpans$State", name := "becomeRests", desc := "(II)V" } : MethodName) ∈ TW := tw_in mm_77 rfl
theorem wt_78 : Cond.code ({ cls := "HandSpans$State", name := "becomeRests", desc := "(II)V" } : MethodName) prog_5_method_2_code (4 : Nat) (Option.none : Option FieldType) ∈ TW := tw_in mm_78 rfl
theorem wt_80 : Cond.instanceMethod ({ cls := "HandSpans$State", name := "resetSettings", desc := "()V" } : MethodName) ∈ TW := tw_in mm_80 rfl
theorem wt_81 : Cond.selects "HandSpans$State" ({ cls := "HandSpans$State", name := "resetSettings", desc := "()V" } : MethodName) ({ cls := "HandSpans$State", name := "resetSettings", desc := "()V" } : MethodName) ∈ TW := tw_in mm_81 rfl
theorem wt_82 : Cond.code ({ cls := "HandSpans$State", name := "resetSettings", desc := "()V" } : MethodName) prog_5_method_3_code (2 : Nat) (Option.none : Option FieldType) ∈ TW := tw_in mm_82 rfl
theorem wt_85 : Cond.fieldLink "HandSpans$State" (9 : Nat) "HandSpans$State" "settings" "[I" ∈ TW := tw_in mm_85 rfl
theorem wt_86 : Cond.fieldLink "HandSpans$State" (15 : Nat) "HandSpans$State" "cells" "[I" ∈ TW := tw_in mm_86 rfl
theorem wt_103 : Cond.classLink "HandSpans" (26 : Nat) "HandSpans$Reduction" ∈ TW := tw_in (List.mem_of_getElem? (i := 103) (by decide +kernel)) rfl
theorem wt_104 : Cond.instantiable "HandSpans$Reduction" (5 : Nat) ∈ TW := tw_in (List.mem_of_getElem? (i := 104) (by decide +kernel)) rfl
theorem wt_105 : Cond.methodLink "HandSpans" (28 : Nat) ({ cls := "HandSpans$Reduction", name := "<init>", desc := "()V" } : MethodName) ∈ TW := tw_in (List.mem_of_getElem? (i := 105) (by decide +kernel)) rfl
theorem wt_106 : Cond.instanceMethod ({ cls := "HandSpans$Reduction", name := "<init>", desc := "()V" } : MethodName) ∈ TW := tw_in (List.mem_of_getElem? (i := 106) (by decide +kernel)) rfl
theorem wt_107 : Cond.code ({ cls := "HandSpans$Reduction", name := "<init>", desc := "()V" } : MethodName) prog_4_method_1_code (2 : Nat) (Option.none : Option FieldType) ∈ TW := tw_in (List.mem_of_getElem? (i := 107) (by decide +kernel)) rfl
theorem wt_108 : Cond.methodLink "HandSpans$Reduction" (3 : Nat) ({ cls := "java/lang/Object", name := "<init>", desc := "()V" } : MethodName) ∈ TW := tw_in (List.mem_of_getElem? (i := 108) (by decide +kernel)) rfl
theorem wt_109 : Cond.classLink "HandSpans$Reduction" (9 : Nat) "HandSpans$Chord" ∈ TW := tw_in (List.mem_of_getElem? (i := 109) (by decide +kernel)) rfl
theorem wt_110 : Cond.arrayOver (FieldType.object "HandSpans$Chord") ∈ TW := tw_in (List.mem_of_getElem? (i := 110) (by decide +kernel)) rfl
theorem wt_111 : Cond.instantiable "HandSpans$Chord" (14 : Nat) ∈ TW := tw_in (List.mem_of_getElem? (i := 111) (by decide +kernel)) rfl
theorem wt_112 : Cond.methodLink "HandSpans$Reduction" (17 : Nat) ({ cls := "HandSpans$Chord", name := "<init>", desc := "()V" } : MethodName) ∈ TW := tw_in (List.mem_of_getElem? (i := 112) (by decide +kernel)) rfl
theorem wt_113 : Cond.instanceMethod ({ cls := "HandSpans$Chord", name := "<init>", desc := "()V" } : MethodName) ∈ TW := tw_in (List.mem_of_getElem? (i := 113) (by decide +kernel)) rfl
theorem wt_114 : Cond.code ({ cls := "HandSpans$Chord", name := "<init>", desc := "()V" } : MethodName) prog_2_method_1_code (3 : Nat) (Option.none : Option FieldType) ∈ TW := tw_in (List.mem_of_getElem? (i := 114) (by decide +kernel)) rfl
theorem wt_115 : Cond.methodLink "HandSpans$Chord" (3 : Nat) ({ cls := "java/lang/Object", name := "<init>", desc := "()V" } : MethodName) ∈ TW := tw_in (List.mem_of_getElem? (i := 115) (by decide +kernel)) rfl
theorem wt_116 : Cond.classLink "HandSpans$Chord" (27 : Nat) "[[I" ∈ TW := tw_in (List.mem_of_getElem? (i := 116) (by decide +kernel)) rfl
theorem wt_118 : Cond.fieldLink "HandSpans$Chord" (9 : Nat) "HandSpans$Chord" "spans" "[I" ∈ TW := tw_in mm_118 rfl
theorem wt_122 : Cond.fieldLink "HandSpans$Chord" (15 : Nat) "HandSpans$Chord" "pitches" "[I" ∈ TW := tw_in mm_122 rfl
theorem wt_123 : Cond.fieldLink "HandSpans$Chord" (18 : Nat) "HandSpans$Chord" "reasons" "[I" ∈ TW := tw_in mm_123 rfl
theorem wt_129 : Cond.fieldLink "HandSpans$Chord" (21 : Nat) "HandSpans$Chord" "rising" "[I" ∈ TW := tw_in mm_129 rfl
theorem wt_134 : Cond.fieldLink "HandSpans$Chord" (24 : Nat) "HandSpans$Chord" "leftStaves" "[I" ∈ TW := tw_in mm_134 rfl
theorem wt_135 : Cond.fieldLink "HandSpans$Chord" (29 : Nat) "HandSpans$Chord" "positions" "[[I" ∈ TW := tw_in mm_135 rfl
theorem wt_137 : Cond.fieldLink "HandSpans$Chord" (32 : Nat) "HandSpans$Chord" "widths" "[[I" ∈ TW := tw_in mm_137 rfl
theorem wt_168 : Cond.classLink "HandSpans$Reduction" (26 : Nat) "[[I" ∈ TW := tw_in (List.mem_of_getElem? (i := 168) (by decide +kernel)) rfl
theorem wt_169 : Cond.fieldLink "HandSpans$Reduction" (11 : Nat) "HandSpans$Reduction" "chords" "[LHandSpans$Chord;" ∈ TW := tw_in mm_169 rfl
theorem wt_170 : Cond.fieldLink "HandSpans$Reduction" (18 : Nat) "HandSpans$Reduction" "silence" "LHandSpans$Chord;" ∈ TW := tw_in mm_170 rfl
theorem wt_171 : Cond.fieldLink "HandSpans$Reduction" (22 : Nat) "HandSpans$Reduction" "splits" "[I" ∈ TW := tw_in mm_171 rfl
theorem wt_172 : Cond.fieldLink "HandSpans$Reduction" (28 : Nat) "HandSpans$Reduction" "ahead" "[[I" ∈ TW := tw_in mm_172 rfl
theorem wt_185 : Cond.classLink "HandSpans" (33 : Nat) "HandSpans$History" ∈ TW := tw_in (List.mem_of_getElem? (i := 185) (by decide +kernel)) rfl
theorem wt_186 : Cond.instantiable "HandSpans$History" (3 : Nat) ∈ TW := tw_in (List.mem_of_getElem? (i := 186) (by decide +kernel)) rfl
theorem wt_187 : Cond.methodLink "HandSpans" (35 : Nat) ({ cls := "HandSpans$History", name := "<init>", desc := "()V" } : MethodName) ∈ TW := tw_in (List.mem_of_getElem? (i := 187) (by decide +kernel)) rfl
theorem wt_188 : Cond.instanceMethod ({ cls := "HandSpans$History", name := "<init>", desc := "()V" } : MethodName) ∈ TW := tw_in (List.mem_of_getElem? (i := 188) (by decide +kernel)) rfl
theorem wt_189 : Cond.code ({ cls := "HandSpans$History", name := "<init>", desc := "()V" } : MethodName) prog_3_method_1_code (2 : Nat) (Option.none : Option FieldType) ∈ TW := tw_in (List.mem_of_getElem? (i := 189) (by decide +kernel)) rfl
theorem wt_190 : Cond.methodLink "HandSpans$History" (3 : Nat) ({ cls := "java/lang/Object", name := "<init>", desc := "()V" } : MethodName) ∈ TW := tw_in (List.mem_of_getElem? (i := 190) (by decide +kernel)) rfl
theorem wt_191 : Cond.classLink "HandSpans$History" (9 : Nat) "HandSpans$State" ∈ TW := tw_in (List.mem_of_getElem? (i := 191) (by decide +kernel)) rfl
theorem wt_192 : Cond.arrayOver (FieldType.object "HandSpans$State") ∈ TW := tw_in (List.mem_of_getElem? (i := 192) (by decide +kernel)) rfl
theorem wt_193 : Cond.methodLink "HandSpans$History" (17 : Nat) ({ cls := "HandSpans$State", name := "<init>", desc := "()V" } : MethodName) ∈ TW := tw_in (List.mem_of_getElem? (i := 193) (by decide +kernel)) rfl
theorem wt_194 : Cond.fieldLink "HandSpans$History" (11 : Nat) "HandSpans$History" "ring" "[LHandSpans$State;" ∈ TW := tw_in mm_194 rfl
theorem wt_204 : Cond.fieldLink "HandSpans" (12 : Nat) "HandSpans" "text" "LHandSpans$Text;" ∈ TW := tw_in mm_204 rfl
theorem wt_205 : Cond.fieldLink "HandSpans" (19 : Nat) "HandSpans" "now" "LHandSpans$State;" ∈ TW := tw_in mm_205 rfl
theorem wt_206 : Cond.fieldLink "HandSpans" (23 : Nat) "HandSpans" "trial" "LHandSpans$State;" ∈ TW := tw_in mm_206 rfl
theorem wt_207 : Cond.fieldLink "HandSpans" (29 : Nat) "HandSpans" "reduction" "LHandSpans$Reduction;" ∈ TW := tw_in mm_207 rfl
theorem wt_208 : Cond.fieldLink "HandSpans" (36 : Nat) "HandSpans" "history" "LHandSpans$History;" ∈ TW := tw_in mm_208 rfl
theorem wt_209 : Cond.fieldLink "HandSpans" (40 : Nat) "HandSpans" "slots" "[LHandSpans$State;" ∈ TW := tw_in mm_209 rfl
theorem wt_210 : Cond.fieldLink "HandSpans" (44 : Nat) "HandSpans" "filled" "[Z" ∈ TW := tw_in mm_210 rfl
theorem kX5_X4_11 : CsIN RX5 11 yX4_init cX4_init 1 := ⟨⟨good1 wt_56 rfl, wt_31, wt_54, wt_55⟩, rfl, by decide +kernel⟩
theorem kX5_X3_18 : CsI RX5 18 yX3_init cX3_init 1 := ⟨⟨good1 wt_73 rfl, wt_32, wt_71, wt_72⟩, rfl, by decide +kernel⟩
theorem kX5_X2_28 : CsI RX5 28 yX2_init cX2_init 2 := ⟨⟨good1 wt_107 rfl, wt_33, wt_105, wt_106⟩, rfl, by decide +kernel⟩
theorem kX5_X1_35 : CsI RX5 35 yX1_init cX1_init 2 := ⟨⟨good1 wt_189 rfl, wt_35, wt_187, wt_188⟩, rfl, by decide +kernel⟩
theorem kX2_X0_17 : CsI RX2 17 yX0_init cX0_init 3 := ⟨⟨good1 wt_114 rfl, wt_34, wt_112, wt_113⟩, rfl, by decide +kernel⟩
theorem kX1_X3_17 : CsI RX1 17 yX3_init cX3_init 1 := ⟨⟨good1 wt_73 rfl, wt_32, wt_193, wt_72⟩, rfl, by decide +kernel⟩
theorem uw_X3_becomeRests_b12 {X : XX} {G : GG} {Z : ZZ} {qq : Nat} {r : Unit} {M' : Mem} (hC : Cx X G RX3 cX3_becomeRests none 0 0 0 4) (hz : ZOk G Z) (H0 : ∀ q, q < 18 → q = qq → At Z (iSt q) (dSt q) ∧ At Z (iSt q + 1) (dA 0 6) ∧ At Z (iSt q + 2) (dA 0 64)) (q0 : Nat) (hq0 : q0 < 18) (hqq : q0 = qq) (k12 : Int32 → Mem → Option (Unit × Mem)) (hk12 : ∀ (u3 : Int32) (M : Mem), k12 u3 M = some (r, M') → V X G Z M 0 0 (QN X G (QcV G Z r M') 0 0) 12 [(0, .ref (Z.1 (iSt q0))), (3, .int u3)] []) (v3 : Int32) (M : Mem) (hf : f_X3_becomeRests_b12 q0 k12 v3 M = some (r, M')) : V X G Z M 0 0 (QN X G (QcV G Z r M') 0 0) 12 [(0, .ref (Z.1 (iSt q0))), (3, .int v3)] [] := by
  unfold f_X3_becomeRests_b12 at hf
  refine r_iload_n hC dX3_becomeRests_12 1 rfl ?_
  refine r_aload_n hC dX3_becomeRests_13 0 rfl ?_
  refine gf_X3_15 hC ((H0 q0 hq0 hqq).1) rfl dX3_becomeRests_14 ?_
  refine r_alen (v := 64) hC ((H0 q0 hq0 hqq).2.2) rfl dX3_becomeRests_17 ?_
  refine r_icmp_ge 35 hC dX3_becomeRests_18 (by decide) (fun h => ?_) (fun h => ?_)
  · have hf := if_T hf h
    exact r_vret hf hC (by decide) (by decide) dX3_becomeRests_35
  · have hf := if_F hf h
    refine r_aload_n hC dX3_becomeRests_21 0 rfl ?_
    refine gf_X3_15 hC ((H0 q0 hq0 hqq).1) rfl dX3_becomeRests_22 ?_
    refine r_iload_n hC dX3_becomeRests_25 1 rfl ?_
    refine r_bipush (v := (-9)) hC dX3_becomeRests_26 rfl ?_
    have hin := if_K hf
    have hf := if_V hf
    refine r_iast hC hz ((H0 q0 hq0 hqq).2.2) (inb_vp hin) dX3_becomeRests_28 ?_
    refine r_iinc (v := v3 + 1) (L' := [(3, .int (v3 + 1)), (0, .ref (Z.1 (iSt q0)))]) hC dX3_becomeRests_29 1 rfl rfl (by decide) rfl ?_
    refine r_goto 12 hC dX3_becomeRests_32 (by decide) ?_
    refine r_L [1, 0] rfl ?_
    exact hk12 _ _ hf
theorem uw_X3_becomeRests {X : XX} {G : GG} {Z : ZZ} {qq : Nat} (hC : Cx X G RX3 cX3_becomeRests none 0 0 0 4) (hz : ZOk G Z) (H0 : ∀ q, q < 18 → q = qq → At Z (iSt q) (dSt q) ∧ At Z (iSt q + 1) (dA 0 6) ∧ At Z (iSt q + 2) (dA 0 64)) (q0 : Nat) (v1 : Int32) (v2 : Int32) (M : Mem) (hq0 : q0 < 18) (hqq : q0 = qq) {r : Unit} {M' : Mem} (hf : f_X3_becomeRests q0 v1 v2 M = some (r, M')) : V X G Z M 0 0 (QN X G (QcV G Z r M') 0 0) 0 [(0, .ref (Z.1 (iSt q0))), (1, .int v1), (2, .int v2)] [] := by
  unfold f_X3_becomeRests at hf
  refine r_aload_n hC dX3_becomeRests_0 0 rfl ?_
  refine r_iload_n hC dX3_becomeRests_1 1 rfl ?_
  refine pf_X3_25 hC hz ((H0 q0 hq0 hqq).1) rfl dX3_becomeRests_2 ?_
  refine r_aload_n hC dX3_becomeRests_5 0 rfl ?_
  refine r_iload_n hC dX3_becomeRests_6 2 rfl ?_
  refine pf_X3_29 hC hz ((H0 q0 hq0 hqq).1) rfl dX3_becomeRests_7 ?_
  refine r_iconst (v := 0) hC dX3_becomeRests_10 rfl ?_
  refine r_istore_n (L' := [(3, .int 0), (0, .ref (Z.1 (iSt q0))), (1, .int v1), (2, .int v2)]) hC dX3_becomeRests_11 (by decide) rfl ?_
  refine r_L [1, 0] rfl ?_
  exact lq1_ind (P := fun (u3 : Int32) (M : Mem) => V X G Z M 0 0 (QN X G (QcV G Z r M') 0 0) 12 [(0, .ref (Z.1 (iSt q0))), (3, .int u3)] []) (fun kk hkk u3 M hf => uw_X3_becomeRests_b12 hC hz H0 q0 hq0 hqq kk hkk u3 M hf) _ _ _ hf
theorem uc_X3_becomeRests {l : Launch} (hl : l.stackTraces = false) {G : GG} {Z : ZZ} {qq : Nat} (hz : ZOk G Z) (H0 : ∀ q, q < 18 → q = qq → At Z (iSt q) (dSt q) ∧ At Z (iSt q + 1) (dA 0 6) ∧ At Z (iSt q + 2) (dA 0 64)) (q0 : Nat) (v1 : Int32) (v2 : Int32) (M : Mem) (hq0 : q0 < 18) (hqq : q0 = qq) (r : Unit) (M' : Mem) (hf : f_X3_becomeRests q0 v1 v2 M = some (r, M')) : CN (QcV G Z r M') l G Z yX3_becomeRests cX3_becomeRests 4 none 0 [.ref (Z.1 (iSt q0)), .int v1, .int v2] M :=
  CN.of [(0, .ref (Z.1 (iSt q0))), (1, .int v1), (2, .int v2)] hl (by decide +kernel) (Nat.le_of_ble_eq_true rfl) rfl (fun _ hC => uw_X3_becomeRests hC hz H0 q0 v1 v2 M hq0 hqq hf)
theorem uw_X3_resetSettings_b2 {X : XX} {G : GG} {Z : ZZ} {qq : Nat} {r : Unit} {M' : Mem} (hC : Cx X G RX3 cX3_resetSettings none 0 0 0 2) (hz : ZOk G Z) (H0 : ∀ q, q < 18 → q = qq → At Z (iSt q) (dSt q) ∧ At Z (iSt q + 1) (dA 0 6) ∧ At Z (iSt q + 2) (dA 0 64)) (q0 : Nat) (hq0 : q0 < 18) (hqq : q0 = qq) (k2 : Int32 → Mem → Option (Unit × Mem)) (hk2 : ∀ (u1 : Int32) (M : Mem), k2 u1 M = some (r, M') → V X G Z M 0 0 (QN X G (QcV G Z r M') 0 0) 2 [(0, .ref (Z.1 (iSt q0))), (1, .int u1)] []) (v1 : Int32) (M : Mem) (hf : f_X3_resetSettings_b2 q0 k2 v1 M = some (r, M')) : V X G Z M 0 0 (QN X G (QcV G Z r M') 0 0) 2 [(0, .ref (Z.1 (iSt q0))), (1, .int v1)] [] := by
  unfold f_X3_resetSettings_b2 at hf
  refine r_iload_n hC dX3_resetSettings_2 1 rfl ?_
  refine r_bipush (v := 6) hC dX3_resetSettings_3 rfl ?_
  refine r_icmp_ge 25 hC dX3_resetSettings_5 (by decide) (fun h => ?_) (fun h => ?_)
  · have hf := if_T hf h
    exact r_vret hf hC (by decide) (by decide) dX3_resetSettings_25
  · have hf := if_F hf h
    refine r_aload_n hC dX3_resetSettings_8 0 rfl ?_
    refine gf_X3_9 hC ((H0 q0 hq0 hqq).1) rfl dX3_resetSettings_9 ?_
    refine r_iload_n hC dX3_resetSettings_12 1 rfl ?_
    refine r_gets (j := 0) (nm := "SETTING_AT_FIRST") (f := fun _ => .null) (fun h => h.1.1) hC kw_X3_32 dX3_resetSettings_13 ?_
    refine r_iload_n hC dX3_resetSettings_16 1 rfl ?_
    have hin := if_K hf
    have hf := if_V hf
    refine r_tald (f := fun k => sa_first.getD k 0) (fun h => h.1.2) hC (inb_vp hin) rfl dX3_resetSettings_17 ?_
    have hin := if_K hf
    have hf := if_V hf
    refine r_iast hC hz ((H0 q0 hq0 hqq).2.1) (inb_vp hin) dX3_resetSettings_18 ?_
    refine r_iinc (v := v1 + 1) (L' := [(1, .int (v1 + 1)), (0, .ref (Z.1 (iSt q0)))]) hC dX3_resetSettings_19 1 rfl rfl (by decide) rfl ?_
    refine r_goto 2 hC dX3_resetSettings_22 (by decide) ?_
    refine r_L [1, 0] rfl ?_
    exact hk2 _ _ hf
theorem uw_X3_resetSettings {X : XX} {G : GG} {Z : ZZ} {qq : Nat} (hC : Cx X G RX3 cX3_resetSettings none 0 0 0 2) (hz : ZOk G Z) (H0 : ∀ q, q < 18 → q = qq → At Z (iSt q) (dSt q) ∧ At Z (iSt q + 1) (dA 0 6) ∧ At Z (iSt q + 2) (dA 0 64)) (q0 : Nat) (M : Mem) (hq0 : q0 < 18) (hqq : q0 = qq) {r : Unit} {M' : Mem} (hf : f_X3_resetSettings q0 M = some (r, M')) : V X G Z M 0 0 (QN X G (QcV G Z r M') 0 0) 0 [(0, .ref (Z.1 (iSt q0)))] [] := by
  unfold f_X3_resetSettings at hf
  refine r_iconst (v := 0) hC dX3_resetSettings_0 rfl ?_
  refine r_istore_n (L' := [(1, .int 0), (0, .ref (Z.1 (iSt q0)))]) hC dX3_resetSettings_1 (by decide) rfl ?_
  refine r_L [1, 0] rfl ?_
  exact lq1_ind (P := fun (u1 : Int32) (M : Mem) => V X G Z M 0 0 (QN X G (QcV G Z r M') 0 0) 2 [(0, .ref (Z.1 (iSt q0))), (1, .int u1)] []) (fun kk hkk u1 M hf => uw_X3_resetSettings_b2 hC hz H0 q0 hq0 hqq kk hkk u1 M hf) _ _ _ hf
theorem uc_X3_resetSettings {l : Launch} (hl : l.stackTraces = false) {G : GG} {Z : ZZ} {qq : Nat} (hz : ZOk G Z) (H0 : ∀ q, q < 18 → q = qq → At Z (iSt q) (dSt q) ∧ At Z (iSt q + 1) (dA 0 6) ∧ At Z (iSt q + 2) (dA 0 64)) (q0 : Nat) (M : Mem) (hq0 : q0 < 18) (hqq : q0 = qq) (r : Unit) (M' : Mem) (hf : f_X3_resetSettings q0 M = some (r, M')) : CN (QcV G Z r M') l G Z yX3_resetSettings cX3_resetSettings 2 none 0 [.ref (Z.1 (iSt q0))] M :=
  CN.of [(0, .ref (Z.1 (iSt q0)))] hl (by decide +kernel) (Nat.le_of_ble_eq_true rfl) rfl (fun _ hC => uw_X3_resetSettings hC hz H0 q0 M hq0 hqq hf)
