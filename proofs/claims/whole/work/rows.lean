section
-- ===== PART A: goes FIRST, ahead of the names: the tables' words, and 'selects' of the private methods out of them =====
/-- a private method of a class that the tables say can be made, by its rows of tables_1 -/
def lw_okq (q : MethodName × Nat) : Prop := (q.1.cls ≠ "java/lang/invoke/MethodHandle" ∧ q.1.cls ≠ "java/lang/invoke/VarHandle") ∧ Cond.instantiable q.1.cls q.2 ∈ tables_1 ∧ Cond.privateMethod q.1 ∈ tables_1 ∧ Cond.instanceMethod q.1 ∈ tables_1
theorem lw_p0 : lw_okq (⟨"HandSpans$Text", "signAt", "(I)I"⟩, 3) := ⟨⟨by decide +kernel, by decide +kernel⟩, List.mem_of_getElem? (i := 25) (by decide +kernel), List.mem_of_getElem? (i := 216) (by decide +kernel), List.mem_of_getElem? (i := 217) (by decide +kernel)⟩
theorem lw_p1 : lw_okq (⟨"HandSpans$Text", "digitAt", "(I)I"⟩, 3) := ⟨⟨by decide +kernel, by decide +kernel⟩, List.mem_of_getElem? (i := 25) (by decide +kernel), List.mem_of_getElem? (i := 220) (by decide +kernel), List.mem_of_getElem? (i := 221) (by decide +kernel)⟩
theorem lw_p2 : lw_okq (⟨"HandSpans$Text", "readCell", "(LHandSpans$State;II)Z"⟩, 3) := ⟨⟨by decide +kernel, by decide +kernel⟩, List.mem_of_getElem? (i := 25) (by decide +kernel), List.mem_of_getElem? (i := 225) (by decide +kernel), List.mem_of_getElem? (i := 226) (by decide +kernel)⟩
theorem lw_p3 : lw_okq (⟨"HandSpans", "numberOfTrial", "(I)I"⟩, 7) := ⟨⟨by decide +kernel, by decide +kernel⟩, List.mem_of_getElem? (i := 17) (by decide +kernel), List.mem_of_getElem? (i := 271) (by decide +kernel), List.mem_of_getElem? (i := 272) (by decide +kernel)⟩
theorem lw_p4 : lw_okq (⟨"HandSpans$Chord", "readSettings", "(LHandSpans$State;)V"⟩, 14) := ⟨⟨by decide +kernel, by decide +kernel⟩, List.mem_of_getElem? (i := 83) (by decide +kernel), List.mem_of_getElem? (i := 283) (by decide +kernel), List.mem_of_getElem? (i := 284) (by decide +kernel)⟩
theorem lw_p5 : lw_okq (⟨"HandSpans$Chord", "readNotes", "(LHandSpans$State;I)V"⟩, 14) := ⟨⟨by decide +kernel, by decide +kernel⟩, List.mem_of_getElem? (i := 83) (by decide +kernel), List.mem_of_getElem? (i := 291) (by decide +kernel), List.mem_of_getElem? (i := 292) (by decide +kernel)⟩
theorem lw_p6 : lw_okq (⟨"HandSpans$Chord", "reasonFor", "(II)I"⟩, 14) := ⟨⟨by decide +kernel, by decide +kernel⟩, List.mem_of_getElem? (i := 83) (by decide +kernel), List.mem_of_getElem? (i := 300) (by decide +kernel), List.mem_of_getElem? (i := 301) (by decide +kernel)⟩
theorem lw_p7 : lw_okq (⟨"HandSpans$Chord", "share", "()V"⟩, 14) := ⟨⟨by decide +kernel, by decide +kernel⟩, List.mem_of_getElem? (i := 83) (by decide +kernel), List.mem_of_getElem? (i := 307) (by decide +kernel), List.mem_of_getElem? (i := 308) (by decide +kernel)⟩
theorem lw_p8 : lw_okq (⟨"HandSpans$Chord", "insert", "(I)V"⟩, 14) := ⟨⟨by decide +kernel, by decide +kernel⟩, List.mem_of_getElem? (i := 83) (by decide +kernel), List.mem_of_getElem? (i := 311) (by decide +kernel), List.mem_of_getElem? (i := 312) (by decide +kernel)⟩
theorem lw_p9 : lw_okq (⟨"HandSpans$Chord", "measure", "(IIII)V"⟩, 14) := ⟨⟨by decide +kernel, by decide +kernel⟩, List.mem_of_getElem? (i := 83) (by decide +kernel), List.mem_of_getElem? (i := 315) (by decide +kernel), List.mem_of_getElem? (i := 316) (by decide +kernel)⟩
theorem lw_p10 : lw_okq (⟨"HandSpans$Chord", "canPlay", "(II)Z"⟩, 14) := ⟨⟨by decide +kernel, by decide +kernel⟩, List.mem_of_getElem? (i := 83) (by decide +kernel), List.mem_of_getElem? (i := 319) (by decide +kernel), List.mem_of_getElem? (i := 320) (by decide +kernel)⟩
theorem lw_p11 : lw_okq (⟨"HandSpans$Reduction", "lookAhead", "(Z)V"⟩, 5) := ⟨⟨by decide +kernel, by decide +kernel⟩, List.mem_of_getElem? (i := 76) (by decide +kernel), List.mem_of_getElem? (i := 332) (by decide +kernel), List.mem_of_getElem? (i := 333) (by decide +kernel)⟩
theorem lw_p12 : lw_okq (⟨"HandSpans$Reduction", "chordAt", "(I)LHandSpans$Chord;"⟩, 5) := ⟨⟨by decide +kernel, by decide +kernel⟩, List.mem_of_getElem? (i := 76) (by decide +kernel), List.mem_of_getElem? (i := 336) (by decide +kernel), List.mem_of_getElem? (i := 337) (by decide +kernel)⟩
theorem lw_p13 : lw_okq (⟨"HandSpans$Reduction", "bestSplit", "(ILHandSpans$Chord;I)I"⟩, 5) := ⟨⟨by decide +kernel, by decide +kernel⟩, List.mem_of_getElem? (i := 76) (by decide +kernel), List.mem_of_getElem? (i := 344) (by decide +kernel), List.mem_of_getElem? (i := 345) (by decide +kernel)⟩
theorem lw_p14 : lw_okq (⟨"HandSpans$Reduction", "splitAt", "(I)I"⟩, 5) := ⟨⟨by decide +kernel, by decide +kernel⟩, List.mem_of_getElem? (i := 76) (by decide +kernel), List.mem_of_getElem? (i := 375) (by decide +kernel), List.mem_of_getElem? (i := 376) (by decide +kernel)⟩
theorem lw_p15 : lw_okq (⟨"HandSpans$Reduction", "shareOfBeat", "(II)I"⟩, 5) := ⟨⟨by decide +kernel, by decide +kernel⟩, List.mem_of_getElem? (i := 76) (by decide +kernel), List.mem_of_getElem? (i := 383) (by decide +kernel), List.mem_of_getElem? (i := 384) (by decide +kernel)⟩
def lw_privs_1 : List (MethodName × Nat) := [(⟨"HandSpans$Text", "signAt", "(I)I"⟩, 3), (⟨"HandSpans$Text", "digitAt", "(I)I"⟩, 3), (⟨"HandSpans$Text", "readCell", "(LHandSpans$State;II)Z"⟩, 3), (⟨"HandSpans", "numberOfTrial", "(I)I"⟩, 7), (⟨"HandSpans$Chord", "readSettings", "(LHandSpans$State;)V"⟩, 14), (⟨"HandSpans$Chord", "readNotes", "(LHandSpans$State;I)V"⟩, 14), (⟨"HandSpans$Chord", "reasonFor", "(II)I"⟩, 14), (⟨"HandSpans$Chord", "share", "()V"⟩, 14), (⟨"HandSpans$Chord", "insert", "(I)V"⟩, 14), (⟨"HandSpans$Chord", "measure", "(IIII)V"⟩, 14), (⟨"HandSpans$Chord", "canPlay", "(II)Z"⟩, 14), (⟨"HandSpans$Reduction", "lookAhead", "(Z)V"⟩, 5), (⟨"HandSpans$Reduction", "chordAt", "(I)LHandSpans$Chord;"⟩, 5), (⟨"HandSpans$Reduction", "bestSplit", "(ILHandSpans$Chord;I)I"⟩, 5), (⟨"HandSpans$Reduction", "splitAt", "(I)I"⟩, 5), (⟨"HandSpans$Reduction", "shareOfBeat", "(II)I"⟩, 5)]
theorem lw_r1 : ∀ q ∈ lw_privs_1, lw_okq q := List.forall_mem_cons.mpr ⟨lw_p0, List.forall_mem_cons.mpr ⟨lw_p1, List.forall_mem_cons.mpr ⟨lw_p2, List.forall_mem_cons.mpr ⟨lw_p3, List.forall_mem_cons.mpr ⟨lw_p4, List.forall_mem_cons.mpr ⟨lw_p5, List.forall_mem_cons.mpr ⟨lw_p6, List.forall_mem_cons.mpr ⟨lw_p7, List.forall_mem_cons.mpr ⟨lw_p8, List.forall_mem_cons.mpr ⟨lw_p9, List.forall_mem_cons.mpr ⟨lw_p10, List.forall_mem_cons.mpr ⟨lw_p11, List.forall_mem_cons.mpr ⟨lw_p12, List.forall_mem_cons.mpr ⟨lw_p13, List.forall_mem_cons.mpr ⟨lw_p14, List.forall_mem_cons.mpr ⟨lw_p15, fun _ h => absurd h List.not_mem_nil⟩⟩⟩⟩⟩⟩⟩⟩⟩⟩⟩⟩⟩⟩⟩⟩
theorem lw_p16 : lw_okq (⟨"HandSpans$Reduction", "costs", "(I)I"⟩, 5) := ⟨⟨by decide +kernel, by decide +kernel⟩, List.mem_of_getElem? (i := 76) (by decide +kernel), List.mem_of_getElem? (i := 387) (by decide +kernel), List.mem_of_getElem? (i := 388) (by decide +kernel)⟩
theorem lw_p17 : lw_okq (⟨"HandSpans$Reduction", "cutStaves", "(I)I"⟩, 5) := ⟨⟨by decide +kernel, by decide +kernel⟩, List.mem_of_getElem? (i := 76) (by decide +kernel), List.mem_of_getElem? (i := 391) (by decide +kernel), List.mem_of_getElem? (i := 392) (by decide +kernel)⟩
theorem lw_p18 : lw_okq (⟨"HandSpans$Reduction", "move", "(II)I"⟩, 5) := ⟨⟨by decide +kernel, by decide +kernel⟩, List.mem_of_getElem? (i := 76) (by decide +kernel), List.mem_of_getElem? (i := 398) (by decide +kernel), List.mem_of_getElem? (i := 399) (by decide +kernel)⟩
theorem lw_p19 : lw_okq (⟨"java/lang/Throwable", "fillInStackTrace", "(I)Ljava/lang/Throwable;"⟩, 6) := ⟨⟨by decide +kernel, by decide +kernel⟩, List.mem_of_getElem? (i := 464) (by decide +kernel), List.mem_of_getElem? (i := 462) (by decide +kernel), List.mem_of_getElem? (i := 463) (by decide +kernel)⟩
theorem lw_p20 : lw_okq (⟨"HandSpans", "requireCell", "(II)V"⟩, 7) := ⟨⟨by decide +kernel, by decide +kernel⟩, List.mem_of_getElem? (i := 17) (by decide +kernel), List.mem_of_getElem? (i := 554) (by decide +kernel), List.mem_of_getElem? (i := 555) (by decide +kernel)⟩
theorem lw_p21 : lw_okq (⟨"HandSpans", "requireStaff", "(I)V"⟩, 7) := ⟨⟨by decide +kernel, by decide +kernel⟩, List.mem_of_getElem? (i := 17) (by decide +kernel), List.mem_of_getElem? (i := 558) (by decide +kernel), List.mem_of_getElem? (i := 559) (by decide +kernel)⟩
theorem lw_p22 : lw_okq (⟨"HandSpans", "requireBeat", "(I)V"⟩, 7) := ⟨⟨by decide +kernel, by decide +kernel⟩, List.mem_of_getElem? (i := 17) (by decide +kernel), List.mem_of_getElem? (i := 578) (by decide +kernel), List.mem_of_getElem? (i := 579) (by decide +kernel)⟩
theorem lw_p23 : lw_okq (⟨"HandSpans", "succeeds", "(I)Z"⟩, 7) := ⟨⟨by decide +kernel, by decide +kernel⟩, List.mem_of_getElem? (i := 17) (by decide +kernel), List.mem_of_getElem? (i := 769) (by decide +kernel), List.mem_of_getElem? (i := 770) (by decide +kernel)⟩
theorem lw_p24 : lw_okq (⟨"HandSpans", "triedSetting", "(II)Z"⟩, 7) := ⟨⟨by decide +kernel, by decide +kernel⟩, List.mem_of_getElem? (i := 17) (by decide +kernel), List.mem_of_getElem? (i := 773) (by decide +kernel), List.mem_of_getElem? (i := 774) (by decide +kernel)⟩
theorem lw_p25 : lw_okq (⟨"HandSpans", "triedCell", "(III)Z"⟩, 7) := ⟨⟨by decide +kernel, by decide +kernel⟩, List.mem_of_getElem? (i := 17) (by decide +kernel), List.mem_of_getElem? (i := 777) (by decide +kernel), List.mem_of_getElem? (i := 778) (by decide +kernel)⟩
theorem lw_p26 : lw_okq (⟨"HandSpans", "triedExchange", "(II)Z"⟩, 7) := ⟨⟨by decide +kernel, by decide +kernel⟩, List.mem_of_getElem? (i := 17) (by decide +kernel), List.mem_of_getElem? (i := 782) (by decide +kernel), List.mem_of_getElem? (i := 783) (by decide +kernel)⟩
theorem lw_p27 : lw_okq (⟨"HandSpans", "triedRemoval", "(I)Z"⟩, 7) := ⟨⟨by decide +kernel, by decide +kernel⟩, List.mem_of_getElem? (i := 17) (by decide +kernel), List.mem_of_getElem? (i := 786) (by decide +kernel), List.mem_of_getElem? (i := 787) (by decide +kernel)⟩
theorem lw_p28 : lw_okq (⟨"HandSpans", "simulateRound", "(I)V"⟩, 7) := ⟨⟨by decide +kernel, by decide +kernel⟩, List.mem_of_getElem? (i := 17) (by decide +kernel), List.mem_of_getElem? (i := 799) (by decide +kernel), List.mem_of_getElem? (i := 800) (by decide +kernel)⟩
theorem lw_p29 : lw_okq (⟨"HandSpansModel", "refused", "(I)Z"⟩, 19) := ⟨⟨by decide +kernel, by decide +kernel⟩, List.mem_of_getElem? (i := 820) (by decide +kernel), List.mem_of_getElem? (i := 899) (by decide +kernel), List.mem_of_getElem? (i := 900) (by decide +kernel)⟩
theorem lw_p30 : lw_okq (⟨"HandSpansModel", "readAll", "()Z"⟩, 19) := ⟨⟨by decide +kernel, by decide +kernel⟩, List.mem_of_getElem? (i := 820) (by decide +kernel), List.mem_of_getElem? (i := 911) (by decide +kernel), List.mem_of_getElem? (i := 912) (by decide +kernel)⟩
theorem lw_p31 : lw_okq (⟨"HandSpansModel", "eat", "(I)Z"⟩, 19) := ⟨⟨by decide +kernel, by decide +kernel⟩, List.mem_of_getElem? (i := 820) (by decide +kernel), List.mem_of_getElem? (i := 915) (by decide +kernel), List.mem_of_getElem? (i := 916) (by decide +kernel)⟩
def lw_privs_2 : List (MethodName × Nat) := [(⟨"HandSpans$Reduction", "costs", "(I)I"⟩, 5), (⟨"HandSpans$Reduction", "cutStaves", "(I)I"⟩, 5), (⟨"HandSpans$Reduction", "move", "(II)I"⟩, 5), (⟨"java/lang/Throwable", "fillInStackTrace", "(I)Ljava/lang/Throwable;"⟩, 6), (⟨"HandSpans", "requireCell", "(II)V"⟩, 7), (⟨"HandSpans", "requireStaff", "(I)V"⟩, 7), (⟨"HandSpans", "requireBeat", "(I)V"⟩, 7), (⟨"HandSpans", "succeeds", "(I)Z"⟩, 7), (⟨"HandSpans", "triedSetting", "(II)Z"⟩, 7), (⟨"HandSpans", "triedCell", "(III)Z"⟩, 7), (⟨"HandSpans", "triedExchange", "(II)Z"⟩, 7), (⟨"HandSpans", "triedRemoval", "(I)Z"⟩, 7), (⟨"HandSpans", "simulateRound", "(I)V"⟩, 7), (⟨"HandSpansModel", "refused", "(I)Z"⟩, 19), (⟨"HandSpansModel", "readAll", "()Z"⟩, 19), (⟨"HandSpansModel", "eat", "(I)Z"⟩, 19)]
theorem lw_r2 : ∀ q ∈ lw_privs_2, lw_okq q := List.forall_mem_cons.mpr ⟨lw_p16, List.forall_mem_cons.mpr ⟨lw_p17, List.forall_mem_cons.mpr ⟨lw_p18, List.forall_mem_cons.mpr ⟨lw_p19, List.forall_mem_cons.mpr ⟨lw_p20, List.forall_mem_cons.mpr ⟨lw_p21, List.forall_mem_cons.mpr ⟨lw_p22, List.forall_mem_cons.mpr ⟨lw_p23, List.forall_mem_cons.mpr ⟨lw_p24, List.forall_mem_cons.mpr ⟨lw_p25, List.forall_mem_cons.mpr ⟨lw_p26, List.forall_mem_cons.mpr ⟨lw_p27, List.forall_mem_cons.mpr ⟨lw_p28, List.forall_mem_cons.mpr ⟨lw_p29, List.forall_mem_cons.mpr ⟨lw_p30, List.forall_mem_cons.mpr ⟨lw_p31, fun _ h => absurd h List.not_mem_nil⟩⟩⟩⟩⟩⟩⟩⟩⟩⟩⟩⟩⟩⟩⟩⟩
theorem lw_p32 : lw_okq (⟨"HandSpansModel", "digit", "(II)I"⟩, 19) := ⟨⟨by decide +kernel, by decide +kernel⟩, List.mem_of_getElem? (i := 820) (by decide +kernel), List.mem_of_getElem? (i := 919) (by decide +kernel), List.mem_of_getElem? (i := 920) (by decide +kernel)⟩
theorem lw_p33 : lw_okq (⟨"HandSpansModel", "two", "(II)I"⟩, 19) := ⟨⟨by decide +kernel, by decide +kernel⟩, List.mem_of_getElem? (i := 820) (by decide +kernel), List.mem_of_getElem? (i := 923) (by decide +kernel), List.mem_of_getElem? (i := 924) (by decide +kernel)⟩
theorem lw_p34 : lw_okq (⟨"HandSpansModel", "readCell", "(II)Z"⟩, 19) := ⟨⟨by decide +kernel, by decide +kernel⟩, List.mem_of_getElem? (i := 820) (by decide +kernel), List.mem_of_getElem? (i := 927) (by decide +kernel), List.mem_of_getElem? (i := 928) (by decide +kernel)⟩
theorem lw_p35 : lw_okq (⟨"HandSpansModel", "laySounds", "([I)V"⟩, 19) := ⟨⟨by decide +kernel, by decide +kernel⟩, List.mem_of_getElem? (i := 820) (by decide +kernel), List.mem_of_getElem? (i := 963) (by decide +kernel), List.mem_of_getElem? (i := 964) (by decide +kernel)⟩
theorem lw_p36 : lw_okq (⟨"HandSpansModel", "isHeld", "([III)Z"⟩, 19) := ⟨⟨by decide +kernel, by decide +kernel⟩, List.mem_of_getElem? (i := 820) (by decide +kernel), List.mem_of_getElem? (i := 967) (by decide +kernel), List.mem_of_getElem? (i := 968) (by decide +kernel)⟩
theorem lw_p37 : lw_okq (⟨"HandSpansModel", "remember", "()V"⟩, 19) := ⟨⟨by decide +kernel, by decide +kernel⟩, List.mem_of_getElem? (i := 820) (by decide +kernel), List.mem_of_getElem? (i := 979) (by decide +kernel), List.mem_of_getElem? (i := 980) (by decide +kernel)⟩
theorem lw_p38 : lw_okq (⟨"HandSpansModel", "lay", "([I)V"⟩, 19) := ⟨⟨by decide +kernel, by decide +kernel⟩, List.mem_of_getElem? (i := 820) (by decide +kernel), List.mem_of_getElem? (i := 1039) (by decide +kernel), List.mem_of_getElem? (i := 1040) (by decide +kernel)⟩
theorem lw_p39 : lw_okq (⟨"HandSpansModel", "layReasons", "([II)V"⟩, 19) := ⟨⟨by decide +kernel, by decide +kernel⟩, List.mem_of_getElem? (i := 820) (by decide +kernel), List.mem_of_getElem? (i := 1043) (by decide +kernel), List.mem_of_getElem? (i := 1044) (by decide +kernel)⟩
theorem lw_p40 : lw_okq (⟨"HandSpansModel", "stands", "([IIIZ)Z"⟩, 19) := ⟨⟨by decide +kernel, by decide +kernel⟩, List.mem_of_getElem? (i := 820) (by decide +kernel), List.mem_of_getElem? (i := 1047) (by decide +kernel), List.mem_of_getElem? (i := 1048) (by decide +kernel)⟩
theorem lw_p41 : lw_okq (⟨"HandSpansModel", "layRow", "([II)V"⟩, 19) := ⟨⟨by decide +kernel, by decide +kernel⟩, List.mem_of_getElem? (i := 820) (by decide +kernel), List.mem_of_getElem? (i := 1054) (by decide +kernel), List.mem_of_getElem? (i := 1055) (by decide +kernel)⟩
theorem lw_p42 : lw_okq (⟨"HandSpansModel", "layPossible", "([II)V"⟩, 19) := ⟨⟨by decide +kernel, by decide +kernel⟩, List.mem_of_getElem? (i := 820) (by decide +kernel), List.mem_of_getElem? (i := 1058) (by decide +kernel), List.mem_of_getElem? (i := 1059) (by decide +kernel)⟩
theorem lw_p43 : lw_okq (⟨"HandSpansModel", "canPlay", "([IIIII)Z"⟩, 19) := ⟨⟨by decide +kernel, by decide +kernel⟩, List.mem_of_getElem? (i := 820) (by decide +kernel), List.mem_of_getElem? (i := 1062) (by decide +kernel), List.mem_of_getElem? (i := 1063) (by decide +kernel)⟩
theorem lw_p44 : lw_okq (⟨"HandSpansModel", "width", "(III)I"⟩, 19) := ⟨⟨by decide +kernel, by decide +kernel⟩, List.mem_of_getElem? (i := 820) (by decide +kernel), List.mem_of_getElem? (i := 1066) (by decide +kernel), List.mem_of_getElem? (i := 1067) (by decide +kernel)⟩
theorem lw_p45 : lw_okq (⟨"HandSpansModel", "pitchOf", "(II)I"⟩, 19) := ⟨⟨by decide +kernel, by decide +kernel⟩, List.mem_of_getElem? (i := 820) (by decide +kernel), List.mem_of_getElem? (i := 1070) (by decide +kernel), List.mem_of_getElem? (i := 1071) (by decide +kernel)⟩
theorem lw_p46 : lw_okq (⟨"HandSpansModel", "dropInner", "([II)V"⟩, 19) := ⟨⟨by decide +kernel, by decide +kernel⟩, List.mem_of_getElem? (i := 820) (by decide +kernel), List.mem_of_getElem? (i := 1074) (by decide +kernel), List.mem_of_getElem? (i := 1075) (by decide +kernel)⟩
theorem lw_p47 : lw_okq (⟨"HandSpansModel", "layAhead", "([I)V"⟩, 19) := ⟨⟨by decide +kernel, by decide +kernel⟩, List.mem_of_getElem? (i := 820) (by decide +kernel), List.mem_of_getElem? (i := 1078) (by decide +kernel), List.mem_of_getElem? (i := 1079) (by decide +kernel)⟩
def lw_privs_3 : List (MethodName × Nat) := [(⟨"HandSpansModel", "digit", "(II)I"⟩, 19), (⟨"HandSpansModel", "two", "(II)I"⟩, 19), (⟨"HandSpansModel", "readCell", "(II)Z"⟩, 19), (⟨"HandSpansModel", "laySounds", "([I)V"⟩, 19), (⟨"HandSpansModel", "isHeld", "([III)Z"⟩, 19), (⟨"HandSpansModel", "remember", "()V"⟩, 19), (⟨"HandSpansModel", "lay", "([I)V"⟩, 19), (⟨"HandSpansModel", "layReasons", "([II)V"⟩, 19), (⟨"HandSpansModel", "stands", "([IIIZ)Z"⟩, 19), (⟨"HandSpansModel", "layRow", "([II)V"⟩, 19), (⟨"HandSpansModel", "layPossible", "([II)V"⟩, 19), (⟨"HandSpansModel", "canPlay", "([IIIII)Z"⟩, 19), (⟨"HandSpansModel", "width", "(III)I"⟩, 19), (⟨"HandSpansModel", "pitchOf", "(II)I"⟩, 19), (⟨"HandSpansModel", "dropInner", "([II)V"⟩, 19), (⟨"HandSpansModel", "layAhead", "([I)V"⟩, 19)]
theorem lw_r3 : ∀ q ∈ lw_privs_3, lw_okq q := List.forall_mem_cons.mpr ⟨lw_p32, List.forall_mem_cons.mpr ⟨lw_p33, List.forall_mem_cons.mpr ⟨lw_p34, List.forall_mem_cons.mpr ⟨lw_p35, List.forall_mem_cons.mpr ⟨lw_p36, List.forall_mem_cons.mpr ⟨lw_p37, List.forall_mem_cons.mpr ⟨lw_p38, List.forall_mem_cons.mpr ⟨lw_p39, List.forall_mem_cons.mpr ⟨lw_p40, List.forall_mem_cons.mpr ⟨lw_p41, List.forall_mem_cons.mpr ⟨lw_p42, List.forall_mem_cons.mpr ⟨lw_p43, List.forall_mem_cons.mpr ⟨lw_p44, List.forall_mem_cons.mpr ⟨lw_p45, List.forall_mem_cons.mpr ⟨lw_p46, List.forall_mem_cons.mpr ⟨lw_p47, fun _ h => absurd h List.not_mem_nil⟩⟩⟩⟩⟩⟩⟩⟩⟩⟩⟩⟩⟩⟩⟩⟩
theorem lw_p48 : lw_okq (⟨"HandSpansModel", "cheapest", "([IIIZ)I"⟩, 19) := ⟨⟨by decide +kernel, by decide +kernel⟩, List.mem_of_getElem? (i := 820) (by decide +kernel), List.mem_of_getElem? (i := 1082) (by decide +kernel), List.mem_of_getElem? (i := 1083) (by decide +kernel)⟩
theorem lw_p49 : lw_okq (⟨"HandSpansModel", "can", "(II)Z"⟩, 19) := ⟨⟨by decide +kernel, by decide +kernel⟩, List.mem_of_getElem? (i := 820) (by decide +kernel), List.mem_of_getElem? (i := 1086) (by decide +kernel), List.mem_of_getElem? (i := 1087) (by decide +kernel)⟩
theorem lw_p50 : lw_okq (⟨"HandSpansModel", "costOf", "([IIII)I"⟩, 19) := ⟨⟨by decide +kernel, by decide +kernel⟩, List.mem_of_getElem? (i := 820) (by decide +kernel), List.mem_of_getElem? (i := 1090) (by decide +kernel), List.mem_of_getElem? (i := 1091) (by decide +kernel)⟩
theorem lw_p51 : lw_okq (⟨"HandSpansModel", "move", "(IIII)I"⟩, 19) := ⟨⟨by decide +kernel, by decide +kernel⟩, List.mem_of_getElem? (i := 820) (by decide +kernel), List.mem_of_getElem? (i := 1094) (by decide +kernel), List.mem_of_getElem? (i := 1095) (by decide +kernel)⟩
theorem lw_p52 : lw_okq (⟨"HandSpansModel", "position", "(III)I"⟩, 19) := ⟨⟨by decide +kernel, by decide +kernel⟩, List.mem_of_getElem? (i := 820) (by decide +kernel), List.mem_of_getElem? (i := 1098) (by decide +kernel), List.mem_of_getElem? (i := 1099) (by decide +kernel)⟩
theorem lw_p53 : lw_okq (⟨"HandSpansModel", "to", "(III)I"⟩, 19) := ⟨⟨by decide +kernel, by decide +kernel⟩, List.mem_of_getElem? (i := 820) (by decide +kernel), List.mem_of_getElem? (i := 1102) (by decide +kernel), List.mem_of_getElem? (i := 1103) (by decide +kernel)⟩
theorem lw_p54 : lw_okq (⟨"HandSpansModel", "from", "(II)I"⟩, 19) := ⟨⟨by decide +kernel, by decide +kernel⟩, List.mem_of_getElem? (i := 820) (by decide +kernel), List.mem_of_getElem? (i := 1106) (by decide +kernel), List.mem_of_getElem? (i := 1107) (by decide +kernel)⟩
theorem lw_p55 : lw_okq (⟨"HandSpansModel", "isRolled", "([IIII)Z"⟩, 19) := ⟨⟨by decide +kernel, by decide +kernel⟩, List.mem_of_getElem? (i := 820) (by decide +kernel), List.mem_of_getElem? (i := 1110) (by decide +kernel), List.mem_of_getElem? (i := 1111) (by decide +kernel)⟩
theorem lw_p56 : lw_okq (⟨"HandSpansModel", "isCut", "([IIIII)Z"⟩, 19) := ⟨⟨by decide +kernel, by decide +kernel⟩, List.mem_of_getElem? (i := 820) (by decide +kernel), List.mem_of_getElem? (i := 1114) (by decide +kernel), List.mem_of_getElem? (i := 1115) (by decide +kernel)⟩
theorem lw_p57 : lw_okq (⟨"HandSpansModel", "placeOf", "(II)I"⟩, 19) := ⟨⟨by decide +kernel, by decide +kernel⟩, List.mem_of_getElem? (i := 820) (by decide +kernel), List.mem_of_getElem? (i := 1118) (by decide +kernel), List.mem_of_getElem? (i := 1119) (by decide +kernel)⟩
theorem lw_p58 : lw_okq (⟨"HandSpansModel", "handOf", "(III)I"⟩, 19) := ⟨⟨by decide +kernel, by decide +kernel⟩, List.mem_of_getElem? (i := 820) (by decide +kernel), List.mem_of_getElem? (i := 1122) (by decide +kernel), List.mem_of_getElem? (i := 1123) (by decide +kernel)⟩
theorem lw_p59 : lw_okq (⟨"HandSpansModel", "isCutHere", "([III)Z"⟩, 19) := ⟨⟨by decide +kernel, by decide +kernel⟩, List.mem_of_getElem? (i := 820) (by decide +kernel), List.mem_of_getElem? (i := 1126) (by decide +kernel), List.mem_of_getElem? (i := 1127) (by decide +kernel)⟩
theorem lw_p60 : lw_okq (⟨"HandSpansModel", "before", "(I)I"⟩, 19) := ⟨⟨by decide +kernel, by decide +kernel⟩, List.mem_of_getElem? (i := 820) (by decide +kernel), List.mem_of_getElem? (i := 1130) (by decide +kernel), List.mem_of_getElem? (i := 1131) (by decide +kernel)⟩
theorem lw_p61 : lw_okq (⟨"HandSpansModel", "wholeOf", "([II)I"⟩, 19) := ⟨⟨by decide +kernel, by decide +kernel⟩, List.mem_of_getElem? (i := 820) (by decide +kernel), List.mem_of_getElem? (i := 1148) (by decide +kernel), List.mem_of_getElem? (i := 1149) (by decide +kernel)⟩
theorem lw_p62 : lw_okq (⟨"HandSpansModel", "does", "(IIII)Z"⟩, 19) := ⟨⟨by decide +kernel, by decide +kernel⟩, List.mem_of_getElem? (i := 820) (by decide +kernel), List.mem_of_getElem? (i := 1175) (by decide +kernel), List.mem_of_getElem? (i := 1176) (by decide +kernel)⟩
theorem lw_p63 : lw_okq (⟨"HandSpansModel", "writes", "(III)Z"⟩, 19) := ⟨⟨by decide +kernel, by decide +kernel⟩, List.mem_of_getElem? (i := 820) (by decide +kernel), List.mem_of_getElem? (i := 1179) (by decide +kernel), List.mem_of_getElem? (i := 1180) (by decide +kernel)⟩
def lw_privs_4 : List (MethodName × Nat) := [(⟨"HandSpansModel", "cheapest", "([IIIZ)I"⟩, 19), (⟨"HandSpansModel", "can", "(II)Z"⟩, 19), (⟨"HandSpansModel", "costOf", "([IIII)I"⟩, 19), (⟨"HandSpansModel", "move", "(IIII)I"⟩, 19), (⟨"HandSpansModel", "position", "(III)I"⟩, 19), (⟨"HandSpansModel", "to", "(III)I"⟩, 19), (⟨"HandSpansModel", "from", "(II)I"⟩, 19), (⟨"HandSpansModel", "isRolled", "([IIII)Z"⟩, 19), (⟨"HandSpansModel", "isCut", "([IIIII)Z"⟩, 19), (⟨"HandSpansModel", "placeOf", "(II)I"⟩, 19), (⟨"HandSpansModel", "handOf", "(III)I"⟩, 19), (⟨"HandSpansModel", "isCutHere", "([III)Z"⟩, 19), (⟨"HandSpansModel", "before", "(I)I"⟩, 19), (⟨"HandSpansModel", "wholeOf", "([II)I"⟩, 19), (⟨"HandSpansModel", "does", "(IIII)Z"⟩, 19), (⟨"HandSpansModel", "writes", "(III)Z"⟩, 19)]
theorem lw_r4 : ∀ q ∈ lw_privs_4, lw_okq q := List.forall_mem_cons.mpr ⟨lw_p48, List.forall_mem_cons.mpr ⟨lw_p49, List.forall_mem_cons.mpr ⟨lw_p50, List.forall_mem_cons.mpr ⟨lw_p51, List.forall_mem_cons.mpr ⟨lw_p52, List.forall_mem_cons.mpr ⟨lw_p53, List.forall_mem_cons.mpr ⟨lw_p54, List.forall_mem_cons.mpr ⟨lw_p55, List.forall_mem_cons.mpr ⟨lw_p56, List.forall_mem_cons.mpr ⟨lw_p57, List.forall_mem_cons.mpr ⟨lw_p58, List.forall_mem_cons.mpr ⟨lw_p59, List.forall_mem_cons.mpr ⟨lw_p60, List.forall_mem_cons.mpr ⟨lw_p61, List.forall_mem_cons.mpr ⟨lw_p62, List.forall_mem_cons.mpr ⟨lw_p63, fun _ h => absurd h List.not_mem_nil⟩⟩⟩⟩⟩⟩⟩⟩⟩⟩⟩⟩⟩⟩⟩⟩
def lw_privs : List (MethodName × Nat) := lw_privs_1 ++ (lw_privs_2 ++ (lw_privs_3 ++ (lw_privs_4)))
def lw_tbl : List Cond := k2_sels lw_privs ++ tables_1
theorem lw_privs_ok : ∀ q ∈ lw_privs, lw_okq q := by
  show ∀ q ∈ lw_privs_1 ++ (lw_privs_2 ++ (lw_privs_3 ++ (lw_privs_4))), lw_okq q
  exact List.forall_mem_append.mpr ⟨lw_r1, List.forall_mem_append.mpr ⟨lw_r2, List.forall_mem_append.mpr ⟨lw_r3, lw_r4⟩⟩⟩
-- ===== end of PART A; then your names; then what follows =====
def RX0 : String := "HandSpans$Chord"
def TX0 : u_T := fun k => match k with
  | 0 => ("HandSpans$Chord", "spans", "[I", true)
  | 1 => ("HandSpans$Chord", "fingers", "I", false)
  | 2 => ("HandSpans$Chord", "reach", "I", false)
  | 3 => ("HandSpans$Chord", "octaveRule", "Z", false)
  | 4 => ("HandSpans$Chord", "pitches", "[I", true)
  | 5 => ("HandSpans$Chord", "reasons", "[I", true)
  | 6 => ("HandSpans$Chord", "held", "I", false)
  | 7 => ("HandSpans$Chord", "keptHolds", "I", false)
  | 8 => ("HandSpans$Chord", "rising", "[I", true)
  | 9 => ("HandSpans$Chord", "size", "I", false)
  | 10 => ("HandSpans$Chord", "possible", "I", false)
  | 11 => ("HandSpans$Chord", "leftStaves", "[I", true)
  | 12 => ("HandSpans$Chord", "positions", "[[I", true)
  | _ => ("HandSpans$Chord", "widths", "[[I", true)
def tyX0 : Nat → FieldType := fun k => match k with
  | 0 => .array .int
  | 1 => .int
  | 2 => .int
  | 3 => .boolean
  | 4 => .array .int
  | 5 => .array .int
  | 6 => .int
  | 7 => .int
  | 8 => .array .int
  | 9 => .int
  | 10 => .int
  | 11 => .array .int
  | 12 => .array (.array .int)
  | _ => .array (.array .int)
abbrev wsX00 : List Cond := u_ws RX0 TX0 14
theorem nmX0 : ∀ a, a < 14 → ∀ b, b < 14 → a ≠ b → (TX0 a).2.1 ≠ (TX0 b).2.1 := by decide +kernel
theorem tyX0_ok : ∀ k, k < 14 → parseFieldDescriptor (TX0 k).2.2.1 = some (tyX0 k) := by decide +kernel
abbrev cX0_init : ByteArray := prog_2_method_1_code
def yX0_init : MethodName := ⟨RX0, "<init>", "()V"⟩
abbrev cX0_read : ByteArray := prog_2_method_2_code
def yX0_read : MethodName := ⟨RX0, "read", "(LHandSpans$State;I)V"⟩
abbrev cX0_readSettings : ByteArray := prog_2_method_3_code
def yX0_readSettings : MethodName := ⟨RX0, "readSettings", "(LHandSpans$State;)V"⟩
abbrev cX0_readNotes : ByteArray := prog_2_method_4_code
def yX0_readNotes : MethodName := ⟨RX0, "readNotes", "(LHandSpans$State;I)V"⟩
abbrev cX0_reasonFor : ByteArray := prog_2_method_5_code
def yX0_reasonFor : MethodName := ⟨RX0, "reasonFor", "(II)I"⟩
abbrev cX0_share : ByteArray := prog_2_method_6_code
def yX0_share : MethodName := ⟨RX0, "share", "()V"⟩
abbrev cX0_insert : ByteArray := prog_2_method_7_code
def yX0_insert : MethodName := ⟨RX0, "insert", "(I)V"⟩
abbrev cX0_measure : ByteArray := prog_2_method_8_code
def yX0_measure : MethodName := ⟨RX0, "measure", "(IIII)V"⟩
abbrev cX0_canPlay : ByteArray := prog_2_method_9_code
def yX0_canPlay : MethodName := ⟨RX0, "canPlay", "(II)Z"⟩
abbrev cX0_isPossible : ByteArray := prog_2_method_10_code
def yX0_isPossible : MethodName := ⟨RX0, "isPossible", "(I)Z"⟩
abbrev cX0_stavesOf : ByteArray := prog_2_method_11_code
def yX0_stavesOf : MethodName := ⟨RX0, "stavesOf", "(II)I"⟩
abbrev cX0_countOf : ByteArray := prog_2_method_12_code
def yX0_countOf : MethodName := ⟨RX0, "countOf", "(II)I"⟩
abbrev cX0_isRolled : ByteArray := prog_2_method_13_code
def yX0_isRolled : MethodName := ⟨RX0, "isRolled", "(II)Z"⟩
abbrev cX0_countRolled : ByteArray := prog_2_method_14_code
def yX0_countRolled : MethodName := ⟨RX0, "countRolled", "(I)I"⟩
abbrev cX0_move : ByteArray := prog_2_method_15_code
def yX0_move : MethodName := ⟨RX0, "move", "(IILHandSpans$Chord;I)I"⟩
abbrev cX0_cutStaves : ByteArray := prog_2_method_16_code
def yX0_cutStaves : MethodName := ⟨RX0, "cutStaves", "(ILHandSpans$Chord;I)I"⟩
abbrev cX0_costs : ByteArray := prog_2_method_17_code
def yX0_costs : MethodName := ⟨RX0, "costs", "(ILHandSpans$Chord;I)I"⟩
abbrev cX0_countLeftOut : ByteArray := prog_2_method_18_code
def yX0_countLeftOut : MethodName := ⟨RX0, "countLeftOut", "(I)I"⟩
def RX1 : String := "HandSpans$History"
def TX1 : u_T := fun k => match k with
  | 0 => ("HandSpans$History", "ring", "[LHandSpans$State;", true)
  | 1 => ("HandSpans$History", "next", "I", false)
  | _ => ("HandSpans$History", "count", "I", false)
def tyX1 : Nat → FieldType := fun k => match k with
  | 0 => .array (.object "HandSpans$State")
  | 1 => .int
  | _ => .int
abbrev wsX10 : List Cond := u_ws RX1 TX1 3
theorem nmX1 : ∀ a, a < 3 → ∀ b, b < 3 → a ≠ b → (TX1 a).2.1 ≠ (TX1 b).2.1 := by decide +kernel
theorem tyX1_ok : ∀ k, k < 3 → parseFieldDescriptor (TX1 k).2.2.1 = some (tyX1 k) := by decide +kernel
abbrev cX1_init : ByteArray := prog_3_method_1_code
def yX1_init : MethodName := ⟨RX1, "<init>", "()V"⟩
abbrev cX1_isEmpty : ByteArray := prog_3_method_2_code
def yX1_isEmpty : MethodName := ⟨RX1, "isEmpty", "()Z"⟩
abbrev cX1_forget : ByteArray := prog_3_method_3_code
def yX1_forget : MethodName := ⟨RX1, "forget", "()V"⟩
abbrev cX1_remember : ByteArray := prog_3_method_4_code
def yX1_remember : MethodName := ⟨RX1, "remember", "(LHandSpans$State;)V"⟩
abbrev cX1_takeBack : ByteArray := prog_3_method_5_code
def yX1_takeBack : MethodName := ⟨RX1, "takeBack", "(LHandSpans$State;)I"⟩
def RX2 : String := "HandSpans$Reduction"
def TX2 : u_T := fun k => match k with
  | 0 => ("HandSpans$Reduction", "chords", "[LHandSpans$Chord;", true)
  | 1 => ("HandSpans$Reduction", "silence", "LHandSpans$Chord;", true)
  | 2 => ("HandSpans$Reduction", "splits", "[I", true)
  | 3 => ("HandSpans$Reduction", "ahead", "[[I", true)
  | _ => ("HandSpans$Reduction", "beats", "I", false)
def tyX2 : Nat → FieldType := fun k => match k with
  | 0 => .array (.object "HandSpans$Chord")
  | 1 => .object "HandSpans$Chord"
  | 2 => .array .int
  | 3 => .array (.array .int)
  | _ => .int
abbrev wsX20 : List Cond := u_ws RX2 TX2 5
theorem nmX2 : ∀ a, a < 5 → ∀ b, b < 5 → a ≠ b → (TX2 a).2.1 ≠ (TX2 b).2.1 := by decide +kernel
theorem tyX2_ok : ∀ k, k < 5 → parseFieldDescriptor (TX2 k).2.2.1 = some (tyX2 k) := by decide +kernel
abbrev cX2_init : ByteArray := prog_4_method_1_code
def yX2_init : MethodName := ⟨RX2, "<init>", "()V"⟩
abbrev cX2_make : ByteArray := prog_4_method_2_code
def yX2_make : MethodName := ⟨RX2, "make", "(LHandSpans$State;)V"⟩
abbrev cX2_lookAhead : ByteArray := prog_4_method_3_code
def yX2_lookAhead : MethodName := ⟨RX2, "lookAhead", "(Z)V"⟩
abbrev cX2_bestSplit : ByteArray := prog_4_method_4_code
def yX2_bestSplit : MethodName := ⟨RX2, "bestSplit", "(ILHandSpans$Chord;I)I"⟩
abbrev cX2_chordAt : ByteArray := prog_4_method_5_code
def yX2_chordAt : MethodName := ⟨RX2, "chordAt", "(I)LHandSpans$Chord;"⟩
abbrev cX2_splitAt : ByteArray := prog_4_method_6_code
def yX2_splitAt : MethodName := ⟨RX2, "splitAt", "(I)I"⟩
abbrev cX2_cutStaves : ByteArray := prog_4_method_7_code
def yX2_cutStaves : MethodName := ⟨RX2, "cutStaves", "(I)I"⟩
abbrev cX2_move : ByteArray := prog_4_method_8_code
def yX2_move : MethodName := ⟨RX2, "move", "(II)I"⟩
abbrev cX2_costs : ByteArray := prog_4_method_9_code
def yX2_costs : MethodName := ⟨RX2, "costs", "(I)I"⟩
abbrev cX2_numberOfNote : ByteArray := prog_4_method_10_code
def yX2_numberOfNote : MethodName := ⟨RX2, "numberOfNote", "(III)I"⟩
abbrev cX2_numberOfHand : ByteArray := prog_4_method_11_code
def yX2_numberOfHand : MethodName := ⟨RX2, "numberOfHand", "(III)I"⟩
abbrev cX2_numberOfBeat : ByteArray := prog_4_method_12_code
def yX2_numberOfBeat : MethodName := ⟨RX2, "numberOfBeat", "(II)I"⟩
abbrev cX2_numberOfWhole : ByteArray := prog_4_method_13_code
def yX2_numberOfWhole : MethodName := ⟨RX2, "numberOfWhole", "(I)I"⟩
abbrev cX2_shareOfBeat : ByteArray := prog_4_method_14_code
def yX2_shareOfBeat : MethodName := ⟨RX2, "shareOfBeat", "(II)I"⟩
def RX3 : String := "HandSpans$State"
def TX3 : u_T := fun k => match k with
  | 0 => ("HandSpans$State", "settings", "[I", true)
  | 1 => ("HandSpans$State", "cells", "[I", true)
  | 2 => ("HandSpans$State", "staves", "I", false)
  | _ => ("HandSpans$State", "beats", "I", false)
def tyX3 : Nat → FieldType := fun k => match k with
  | 0 => .array .int
  | 1 => .array .int
  | 2 => .int
  | _ => .int
abbrev wsX30 : List Cond := u_ws RX3 TX3 4
theorem nmX3 : ∀ a, a < 4 → ∀ b, b < 4 → a ≠ b → (TX3 a).2.1 ≠ (TX3 b).2.1 := by decide +kernel
theorem tyX3_ok : ∀ k, k < 4 → parseFieldDescriptor (TX3 k).2.2.1 = some (tyX3 k) := by decide +kernel
abbrev cX3_init : ByteArray := prog_5_method_1_code
def yX3_init : MethodName := ⟨RX3, "<init>", "()V"⟩
abbrev cX3_becomeRests : ByteArray := prog_5_method_2_code
def yX3_becomeRests : MethodName := ⟨RX3, "becomeRests", "(II)V"⟩
abbrev cX3_resetSettings : ByteArray := prog_5_method_3_code
def yX3_resetSettings : MethodName := ⟨RX3, "resetSettings", "()V"⟩
abbrev cX3_takeFrom : ByteArray := prog_5_method_4_code
def yX3_takeFrom : MethodName := ⟨RX3, "takeFrom", "(LHandSpans$State;)V"⟩
abbrev cX3_isPitch : ByteArray := prog_5_method_5_code
def yX3_isPitch : MethodName := ⟨RX3, "isPitch", "(I)Z"⟩
abbrev cX3_isSetting : ByteArray := prog_5_method_6_code
def yX3_isSetting : MethodName := ⟨RX3, "isSetting", "(I)Z"⟩
abbrev cX3_allowsSetting : ByteArray := prog_5_method_7_code
def yX3_allowsSetting : MethodName := ⟨RX3, "allowsSetting", "(II)Z"⟩
abbrev cX3_hasStaff : ByteArray := prog_5_method_8_code
def yX3_hasStaff : MethodName := ⟨RX3, "hasStaff", "(I)Z"⟩
abbrev cX3_hasBeat : ByteArray := prog_5_method_9_code
def yX3_hasBeat : MethodName := ⟨RX3, "hasBeat", "(I)Z"⟩
abbrev cX3_hasCell : ByteArray := prog_5_method_10_code
def yX3_hasCell : MethodName := ⟨RX3, "hasCell", "(II)Z"⟩
abbrev cX3_allowsHold : ByteArray := prog_5_method_11_code
def yX3_allowsHold : MethodName := ⟨RX3, "allowsHold", "(II)Z"⟩
abbrev cX3_allowsMoving : ByteArray := prog_5_method_12_code
def yX3_allowsMoving : MethodName := ⟨RX3, "allowsMoving", "(II)Z"⟩
abbrev cX3_settingAt : ByteArray := prog_5_method_13_code
def yX3_settingAt : MethodName := ⟨RX3, "settingAt", "(I)I"⟩
abbrev cX3_written : ByteArray := prog_5_method_14_code
def yX3_written : MethodName := ⟨RX3, "written", "(II)I"⟩
abbrev cX3_sounding : ByteArray := prog_5_method_15_code
def yX3_sounding : MethodName := ⟨RX3, "sounding", "(II)I"⟩
abbrev cX3_countStruck : ByteArray := prog_5_method_16_code
def yX3_countStruck : MethodName := ⟨RX3, "countStruck", "()I"⟩
abbrev cX3_countStruckOf : ByteArray := prog_5_method_17_code
def yX3_countStruckOf : MethodName := ⟨RX3, "countStruckOf", "(I)I"⟩
abbrev cX3_countHolds : ByteArray := prog_5_method_18_code
def yX3_countHolds : MethodName := ⟨RX3, "countHolds", "()I"⟩
abbrev cX3_changeSetting : ByteArray := prog_5_method_19_code
def yX3_changeSetting : MethodName := ⟨RX3, "changeSetting", "(II)V"⟩
abbrev cX3_put : ByteArray := prog_5_method_20_code
def yX3_put : MethodName := ⟨RX3, "put", "(III)V"⟩
abbrev cX3_silenceStaff : ByteArray := prog_5_method_21_code
def yX3_silenceStaff : MethodName := ⟨RX3, "silenceStaff", "(I)V"⟩
abbrev cX3_moveStaff : ByteArray := prog_5_method_22_code
def yX3_moveStaff : MethodName := ⟨RX3, "moveStaff", "(II)I"⟩
abbrev cX3_swapStaves : ByteArray := prog_5_method_23_code
def yX3_swapStaves : MethodName := ⟨RX3, "swapStaves", "(II)I"⟩
abbrev cX3_addStaff : ByteArray := prog_5_method_24_code
def yX3_addStaff : MethodName := ⟨RX3, "addStaff", "()V"⟩
abbrev cX3_dropStaff : ByteArray := prog_5_method_25_code
def yX3_dropStaff : MethodName := ⟨RX3, "dropStaff", "()V"⟩
abbrev cX3_openBeat : ByteArray := prog_5_method_26_code
def yX3_openBeat : MethodName := ⟨RX3, "openBeat", "(I)V"⟩
abbrev cX3_closeBeat : ByteArray := prog_5_method_27_code
def yX3_closeBeat : MethodName := ⟨RX3, "closeBeat", "(I)V"⟩
abbrev cX3_dropLooseHolds : ByteArray := prog_5_method_28_code
def yX3_dropLooseHolds : MethodName := ⟨RX3, "dropLooseHolds", "()V"⟩
def RX4 : String := "HandSpans$Text"
def TX4 : u_T := fun k => match k with
  | 0 => ("HandSpans$Text", "signs", "[C", true)
  | 1 => ("HandSpans$Text", "length", "I", false)
  | _ => ("HandSpans$Text", "at", "I", false)
def tyX4 : Nat → FieldType := fun k => match k with
  | 0 => .array .char
  | 1 => .int
  | _ => .int
abbrev wsX40 : List Cond := u_ws RX4 TX4 3
theorem nmX4 : ∀ a, a < 3 → ∀ b, b < 3 → a ≠ b → (TX4 a).2.1 ≠ (TX4 b).2.1 := by decide +kernel
theorem tyX4_ok : ∀ k, k < 3 → parseFieldDescriptor (TX4 k).2.2.1 = some (tyX4 k) := by decide +kernel
abbrev cX4_init : ByteArray := prog_6_method_1_code
def yX4_init : MethodName := ⟨RX4, "<init>", "()V"⟩
abbrev cX4_isFull : ByteArray := prog_6_method_2_code
def yX4_isFull : MethodName := ⟨RX4, "isFull", "()Z"⟩
abbrev cX4_add : ByteArray := prog_6_method_3_code
def yX4_add : MethodName := ⟨RX4, "add", "(C)I"⟩
abbrev cX4_empty : ByteArray := prog_6_method_4_code
def yX4_empty : MethodName := ⟨RX4, "empty", "()I"⟩
abbrev cX4_readInto : ByteArray := prog_6_method_5_code
def yX4_readInto : MethodName := ⟨RX4, "readInto", "(LHandSpans$State;)I"⟩
abbrev cX4_readCell : ByteArray := prog_6_method_6_code
def yX4_readCell : MethodName := ⟨RX4, "readCell", "(LHandSpans$State;II)Z"⟩
abbrev cX4_signAt : ByteArray := prog_6_method_7_code
def yX4_signAt : MethodName := ⟨RX4, "signAt", "(I)I"⟩
abbrev cX4_digitAt : ByteArray := prog_6_method_8_code
def yX4_digitAt : MethodName := ⟨RX4, "digitAt", "(I)I"⟩
def RX5 : String := "HandSpans"
def TX5 : u_T := fun k => match k with
  | 0 => ("HandSpans", "text", "LHandSpans$Text;", true)
  | 1 => ("HandSpans", "now", "LHandSpans$State;", true)
  | 2 => ("HandSpans", "trial", "LHandSpans$State;", true)
  | 3 => ("HandSpans", "reduction", "LHandSpans$Reduction;", true)
  | 4 => ("HandSpans", "history", "LHandSpans$History;", true)
  | 5 => ("HandSpans", "slots", "[LHandSpans$State;", true)
  | _ => ("HandSpans", "filled", "[Z", true)
def tyX5 : Nat → FieldType := fun k => match k with
  | 0 => .object "HandSpans$Text"
  | 1 => .object "HandSpans$State"
  | 2 => .object "HandSpans$State"
  | 3 => .object "HandSpans$Reduction"
  | 4 => .object "HandSpans$History"
  | 5 => .array (.object "HandSpans$State")
  | _ => .array .boolean
abbrev wsX50 : List Cond := u_ws RX5 TX5 7
theorem nmX5 : ∀ a, a < 7 → ∀ b, b < 7 → a ≠ b → (TX5 a).2.1 ≠ (TX5 b).2.1 := by decide +kernel
theorem tyX5_ok : ∀ k, k < 7 → parseFieldDescriptor (TX5 k).2.2.1 = some (tyX5 k) := by decide +kernel
abbrev cX5_init : ByteArray := prog_1_method_1_code
def yX5_init : MethodName := ⟨RX5, "<init>", "()V"⟩
abbrev cX5_append : ByteArray := prog_1_method_2_code
def yX5_append : MethodName := ⟨RX5, "append", "(I)I"⟩
abbrev cX5_clearText : ByteArray := prog_1_method_3_code
def yX5_clearText : MethodName := ⟨RX5, "clearText", "()I"⟩
abbrev cX5_errorPosition : ByteArray := prog_1_method_4_code
def yX5_errorPosition : MethodName := ⟨RX5, "errorPosition", "()I"⟩
abbrev cX5_load : ByteArray := prog_1_method_5_code
def yX5_load : MethodName := ⟨RX5, "load", "()I"⟩
abbrev cX5_about : ByteArray := prog_1_method_6_code
def yX5_about : MethodName := ⟨RX5, "about", "(I)I"⟩
abbrev cX5_cell : ByteArray := prog_1_method_7_code
def yX5_cell : MethodName := ⟨RX5, "cell", "(IIZ)I"⟩
abbrev cX5_set : ByteArray := prog_1_method_8_code
def yX5_set : MethodName := ⟨RX5, "set", "(II)I"⟩
abbrev cX5_write : ByteArray := prog_1_method_9_code
def yX5_write : MethodName := ⟨RX5, "write", "(III)I"⟩
abbrev cX5_transpose : ByteArray := prog_1_method_10_code
def yX5_transpose : MethodName := ⟨RX5, "transpose", "(II)I"⟩
abbrev cX5_exchange : ByteArray := prog_1_method_11_code
def yX5_exchange : MethodName := ⟨RX5, "exchange", "(II)I"⟩
abbrev cX5_staff : ByteArray := prog_1_method_12_code
def yX5_staff : MethodName := ⟨RX5, "staff", "(Z)I"⟩
abbrev cX5_insertBeat : ByteArray := prog_1_method_13_code
def yX5_insertBeat : MethodName := ⟨RX5, "insertBeat", "(I)I"⟩
abbrev cX5_removeBeat : ByteArray := prog_1_method_14_code
def yX5_removeBeat : MethodName := ⟨RX5, "removeBeat", "(I)I"⟩
abbrev cX5_undo : ByteArray := prog_1_method_15_code
def yX5_undo : MethodName := ⟨RX5, "undo", "()I"⟩
abbrev cX5_note : ByteArray := prog_1_method_16_code
def yX5_note : MethodName := ⟨RX5, "note", "(III)I"⟩
abbrev cX5_hand : ByteArray := prog_1_method_17_code
def yX5_hand : MethodName := ⟨RX5, "hand", "(III)I"⟩
abbrev cX5_beat : ByteArray := prog_1_method_18_code
def yX5_beat : MethodName := ⟨RX5, "beat", "(II)I"⟩
abbrev cX5_whole : ByteArray := prog_1_method_19_code
def yX5_whole : MethodName := ⟨RX5, "whole", "(I)I"⟩
abbrev cX5_whatIf : ByteArray := prog_1_method_20_code
def yX5_whatIf : MethodName := ⟨RX5, "whatIf", "(III)I"⟩
abbrev cX5_smallestSpan : ByteArray := prog_1_method_21_code
def yX5_smallestSpan : MethodName := ⟨RX5, "smallestSpan", "()I"⟩
abbrev cX5_dearest : ByteArray := prog_1_method_22_code
def yX5_dearest : MethodName := ⟨RX5, "dearest", "()I"⟩
abbrev cX5_bestTransposition : ByteArray := prog_1_method_23_code
def yX5_bestTransposition : MethodName := ⟨RX5, "bestTransposition", "(I)I"⟩
abbrev cX5_runScript : ByteArray := prog_1_method_24_code
def yX5_runScript : MethodName := ⟨RX5, "runScript", "(IJ)I"⟩
abbrev cX5_simulate : ByteArray := prog_1_method_25_code
def yX5_simulate : MethodName := ⟨RX5, "simulate", "(JI)I"⟩
abbrev cX5_save : ByteArray := prog_1_method_26_code
def yX5_save : MethodName := ⟨RX5, "save", "(I)I"⟩
abbrev cX5_restore : ByteArray := prog_1_method_27_code
def yX5_restore : MethodName := ⟨RX5, "restore", "(I)I"⟩
abbrev cX5_requireStaff : ByteArray := prog_1_method_28_code
def yX5_requireStaff : MethodName := ⟨RX5, "requireStaff", "(I)V"⟩
abbrev cX5_requireBeat : ByteArray := prog_1_method_29_code
def yX5_requireBeat : MethodName := ⟨RX5, "requireBeat", "(I)V"⟩
abbrev cX5_requireCell : ByteArray := prog_1_method_30_code
def yX5_requireCell : MethodName := ⟨RX5, "requireCell", "(II)V"⟩
abbrev cX5_requireSlot : ByteArray := prog_1_method_31_code
def yX5_requireSlot : MethodName := ⟨RX5, "requireSlot", "(I)V"⟩
abbrev cX5_requireUpTo : ByteArray := prog_1_method_32_code
def yX5_requireUpTo : MethodName := ⟨RX5, "requireUpTo", "(II)V"⟩
abbrev cX5_numberOfTrial : ByteArray := prog_1_method_33_code
def yX5_numberOfTrial : MethodName := ⟨RX5, "numberOfTrial", "(I)I"⟩
abbrev cX5_groupFromEnd : ByteArray := prog_1_method_34_code
def yX5_groupFromEnd : MethodName := ⟨RX5, "groupFromEnd", "(JI)J"⟩
abbrev cX5_succeeds : ByteArray := prog_1_method_35_code
def yX5_succeeds : MethodName := ⟨RX5, "succeeds", "(I)Z"⟩
abbrev cX5_triedSetting : ByteArray := prog_1_method_36_code
def yX5_triedSetting : MethodName := ⟨RX5, "triedSetting", "(II)Z"⟩
abbrev cX5_triedCell : ByteArray := prog_1_method_37_code
def yX5_triedCell : MethodName := ⟨RX5, "triedCell", "(III)Z"⟩
abbrev cX5_triedExchange : ByteArray := prog_1_method_38_code
def yX5_triedExchange : MethodName := ⟨RX5, "triedExchange", "(II)Z"⟩
abbrev cX5_triedRemoval : ByteArray := prog_1_method_39_code
def yX5_triedRemoval : MethodName := ⟨RX5, "triedRemoval", "(I)Z"⟩
abbrev cX5_simulateRound : ByteArray := prog_1_method_40_code
def yX5_simulateRound : MethodName := ⟨RX5, "simulateRound", "(I)V"⟩
def RX6 : String := "HandSpansModel"
def TX6 : u_T := fun k => match k with
  | 0 => ("HandSpansModel", "refusal", "I", false)
  | 1 => ("HandSpansModel", "text", "[I", true)
  | 2 => ("HandSpansModel", "textSize", "I", false)
  | 3 => ("HandSpansModel", "spot", "I", false)
  | 4 => ("HandSpansModel", "read", "[I", true)
  | 5 => ("HandSpansModel", "now", "[I", true)
  | 6 => ("HandSpansModel", "trial", "[I", true)
  | 7 => ("HandSpansModel", "other", "[I", true)
  | 8 => ("HandSpansModel", "diary", "[I", true)
  | 9 => ("HandSpansModel", "acts", "I", false)
  | 10 => ("HandSpansModel", "kept", "[I", true)
  | 11 => ("HandSpansModel", "isKept", "[Z", true)
  | 12 => ("HandSpansModel", "sound", "[I", true)
  | 13 => ("HandSpansModel", "reason", "[I", true)
  | 14 => ("HandSpansModel", "row", "[I", true)
  | 15 => ("HandSpansModel", "rowMany", "[I", true)
  | 16 => ("HandSpansModel", "possible", "[I", true)
  | 17 => ("HandSpansModel", "split", "[I", true)
  | _ => ("HandSpansModel", "ahead", "[I", true)
def tyX6 : Nat → FieldType := fun k => match k with
  | 0 => .int
  | 1 => .array .int
  | 2 => .int
  | 3 => .int
  | 4 => .array .int
  | 5 => .array .int
  | 6 => .array .int
  | 7 => .array .int
  | 8 => .array .int
  | 9 => .int
  | 10 => .array .int
  | 11 => .array .boolean
  | 12 => .array .int
  | 13 => .array .int
  | 14 => .array .int
  | 15 => .array .int
  | 16 => .array .int
  | 17 => .array .int
  | _ => .array .int
abbrev wsX60 : List Cond := u_ws RX6 TX6 19
theorem nmX6 : ∀ a, a < 19 → ∀ b, b < 19 → a ≠ b → (TX6 a).2.1 ≠ (TX6 b).2.1 := by decide +kernel
theorem tyX6_ok : ∀ k, k < 19 → parseFieldDescriptor (TX6 k).2.2.1 = some (tyX6 k) := by decide +kernel
abbrev cX6_init : ByteArray := prog_8_method_1_code
def yX6_init : MethodName := ⟨RX6, "<init>", "()V"⟩
abbrev cX6_thrown : ByteArray := prog_8_method_2_code
def yX6_thrown : MethodName := ⟨RX6, "thrown", "()I"⟩
abbrev cX6_refused : ByteArray := prog_8_method_3_code
def yX6_refused : MethodName := ⟨RX6, "refused", "(I)Z"⟩
abbrev cX6_in : ByteArray := prog_8_method_4_code
def yX6_in : MethodName := ⟨RX6, "in", "(JJJ)Z"⟩
abbrev cX6_copyPage : ByteArray := prog_8_method_5_code
def yX6_copyPage : MethodName := ⟨RX6, "copyPage", "([II[II)V"⟩
abbrev cX6_begin : ByteArray := prog_8_method_6_code
def yX6_begin : MethodName := ⟨RX6, "begin", "([I)V"⟩
abbrev cX6_at : ByteArray := prog_8_method_7_code
def yX6_at : MethodName := ⟨RX6, "at", "(II)I"⟩
abbrev cX6_isSetting : ByteArray := prog_8_method_8_code
def yX6_isSetting : MethodName := ⟨RX6, "isSetting", "(II)Z"⟩
abbrev cX6_isHeld : ByteArray := prog_8_method_9_code
def yX6_isHeld : MethodName := ⟨RX6, "isHeld", "([III)Z"⟩
abbrev cX6_laySounds : ByteArray := prog_8_method_10_code
def yX6_laySounds : MethodName := ⟨RX6, "laySounds", "([I)V"⟩
abbrev cX6_rank : ByteArray := prog_8_method_11_code
def yX6_rank : MethodName := ⟨RX6, "rank", "([II)I"⟩
abbrev cX6_stands : ByteArray := prog_8_method_12_code
def yX6_stands : MethodName := ⟨RX6, "stands", "([IIIZ)Z"⟩
abbrev cX6_layReasons : ByteArray := prog_8_method_13_code
def yX6_layReasons : MethodName := ⟨RX6, "layReasons", "([II)V"⟩
abbrev cX6_layRow : ByteArray := prog_8_method_14_code
def yX6_layRow : MethodName := ⟨RX6, "layRow", "([II)V"⟩
abbrev cX6_pitchOf : ByteArray := prog_8_method_15_code
def yX6_pitchOf : MethodName := ⟨RX6, "pitchOf", "(II)I"⟩
abbrev cX6_width : ByteArray := prog_8_method_16_code
def yX6_width : MethodName := ⟨RX6, "width", "(III)I"⟩
abbrev cX6_canPlay : ByteArray := prog_8_method_17_code
def yX6_canPlay : MethodName := ⟨RX6, "canPlay", "([IIIII)Z"⟩
abbrev cX6_layPossible : ByteArray := prog_8_method_18_code
def yX6_layPossible : MethodName := ⟨RX6, "layPossible", "([II)V"⟩
abbrev cX6_dropInner : ByteArray := prog_8_method_19_code
def yX6_dropInner : MethodName := ⟨RX6, "dropInner", "([II)V"⟩
abbrev cX6_can : ByteArray := prog_8_method_20_code
def yX6_can : MethodName := ⟨RX6, "can", "(II)Z"⟩
abbrev cX6_placeOf : ByteArray := prog_8_method_21_code
def yX6_placeOf : MethodName := ⟨RX6, "placeOf", "(II)I"⟩
abbrev cX6_handOf : ByteArray := prog_8_method_22_code
def yX6_handOf : MethodName := ⟨RX6, "handOf", "(III)I"⟩
abbrev cX6_isCut : ByteArray := prog_8_method_23_code
def yX6_isCut : MethodName := ⟨RX6, "isCut", "([IIIII)Z"⟩
abbrev cX6_from : ByteArray := prog_8_method_24_code
def yX6_from : MethodName := ⟨RX6, "from", "(II)I"⟩
abbrev cX6_to : ByteArray := prog_8_method_25_code
def yX6_to : MethodName := ⟨RX6, "to", "(III)I"⟩
abbrev cX6_position : ByteArray := prog_8_method_26_code
def yX6_position : MethodName := ⟨RX6, "position", "(III)I"⟩
abbrev cX6_move : ByteArray := prog_8_method_27_code
def yX6_move : MethodName := ⟨RX6, "move", "(IIII)I"⟩
abbrev cX6_isRolled : ByteArray := prog_8_method_28_code
def yX6_isRolled : MethodName := ⟨RX6, "isRolled", "([IIII)Z"⟩
abbrev cX6_costOf : ByteArray := prog_8_method_29_code
def yX6_costOf : MethodName := ⟨RX6, "costOf", "([IIII)I"⟩
abbrev cX6_cheapest : ByteArray := prog_8_method_30_code
def yX6_cheapest : MethodName := ⟨RX6, "cheapest", "([IIIZ)I"⟩
abbrev cX6_layAhead : ByteArray := prog_8_method_31_code
def yX6_layAhead : MethodName := ⟨RX6, "layAhead", "([I)V"⟩
abbrev cX6_lay : ByteArray := prog_8_method_32_code
def yX6_lay : MethodName := ⟨RX6, "lay", "([I)V"⟩
abbrev cX6_before : ByteArray := prog_8_method_33_code
def yX6_before : MethodName := ⟨RX6, "before", "(I)I"⟩
abbrev cX6_isCutHere : ByteArray := prog_8_method_34_code
def yX6_isCutHere : MethodName := ⟨RX6, "isCutHere", "([III)Z"⟩
abbrev cX6_wholeOf : ByteArray := prog_8_method_35_code
def yX6_wholeOf : MethodName := ⟨RX6, "wholeOf", "([II)I"⟩
abbrev cX6_mend : ByteArray := prog_8_method_36_code
def yX6_mend : MethodName := ⟨RX6, "mend", "([I)V"⟩
abbrev cX6_append : ByteArray := prog_8_method_37_code
def yX6_append : MethodName := ⟨RX6, "append", "(I)I"⟩
abbrev cX6_clearText : ByteArray := prog_8_method_38_code
def yX6_clearText : MethodName := ⟨RX6, "clearText", "()I"⟩
abbrev cX6_eat : ByteArray := prog_8_method_39_code
def yX6_eat : MethodName := ⟨RX6, "eat", "(I)Z"⟩
abbrev cX6_digit : ByteArray := prog_8_method_40_code
def yX6_digit : MethodName := ⟨RX6, "digit", "(II)I"⟩
abbrev cX6_two : ByteArray := prog_8_method_41_code
def yX6_two : MethodName := ⟨RX6, "two", "(II)I"⟩
abbrev cX6_readCell : ByteArray := prog_8_method_42_code
def yX6_readCell : MethodName := ⟨RX6, "readCell", "(II)Z"⟩
abbrev cX6_readAll : ByteArray := prog_8_method_43_code
def yX6_readAll : MethodName := ⟨RX6, "readAll", "()Z"⟩
abbrev cX6_errorPosition : ByteArray := prog_8_method_44_code
def yX6_errorPosition : MethodName := ⟨RX6, "errorPosition", "()I"⟩
abbrev cX6_load : ByteArray := prog_8_method_45_code
def yX6_load : MethodName := ⟨RX6, "load", "()I"⟩
abbrev cX6_cellsLike : ByteArray := prog_8_method_46_code
def yX6_cellsLike : MethodName := ⟨RX6, "cellsLike", "([IZ)I"⟩
abbrev cX6_about : ByteArray := prog_8_method_47_code
def yX6_about : MethodName := ⟨RX6, "about", "(I)I"⟩
abbrev cX6_isStaff : ByteArray := prog_8_method_48_code
def yX6_isStaff : MethodName := ⟨RX6, "isStaff", "([II)Z"⟩
abbrev cX6_isBeat : ByteArray := prog_8_method_49_code
def yX6_isBeat : MethodName := ⟨RX6, "isBeat", "([II)Z"⟩
abbrev cX6_isCell : ByteArray := prog_8_method_50_code
def yX6_isCell : MethodName := ⟨RX6, "isCell", "([III)Z"⟩
abbrev cX6_cell : ByteArray := prog_8_method_51_code
def yX6_cell : MethodName := ⟨RX6, "cell", "(IIZ)I"⟩
abbrev cX6_remember : ByteArray := prog_8_method_52_code
def yX6_remember : MethodName := ⟨RX6, "remember", "()V"⟩
abbrev cX6_set : ByteArray := prog_8_method_53_code
def yX6_set : MethodName := ⟨RX6, "set", "(II)I"⟩
abbrev cX6_canWrite : ByteArray := prog_8_method_54_code
def yX6_canWrite : MethodName := ⟨RX6, "canWrite", "([IIII)Z"⟩
abbrev cX6_put : ByteArray := prog_8_method_55_code
def yX6_put : MethodName := ⟨RX6, "put", "([IIII)V"⟩
abbrev cX6_write : ByteArray := prog_8_method_56_code
def yX6_write : MethodName := ⟨RX6, "write", "(III)I"⟩
abbrev cX6_canShift : ByteArray := prog_8_method_57_code
def yX6_canShift : MethodName := ⟨RX6, "canShift", "([III)Z"⟩
abbrev cX6_shift : ByteArray := prog_8_method_58_code
def yX6_shift : MethodName := ⟨RX6, "shift", "([III)I"⟩
abbrev cX6_transpose : ByteArray := prog_8_method_59_code
def yX6_transpose : MethodName := ⟨RX6, "transpose", "(II)I"⟩
abbrev cX6_swap : ByteArray := prog_8_method_60_code
def yX6_swap : MethodName := ⟨RX6, "swap", "([III)I"⟩
abbrev cX6_exchange : ByteArray := prog_8_method_61_code
def yX6_exchange : MethodName := ⟨RX6, "exchange", "(II)I"⟩
abbrev cX6_staff : ByteArray := prog_8_method_62_code
def yX6_staff : MethodName := ⟨RX6, "staff", "(Z)I"⟩
abbrev cX6_insertBeat : ByteArray := prog_8_method_63_code
def yX6_insertBeat : MethodName := ⟨RX6, "insertBeat", "(I)I"⟩
abbrev cX6_dropBeat : ByteArray := prog_8_method_64_code
def yX6_dropBeat : MethodName := ⟨RX6, "dropBeat", "([II)V"⟩
abbrev cX6_removeBeat : ByteArray := prog_8_method_65_code
def yX6_removeBeat : MethodName := ⟨RX6, "removeBeat", "(I)I"⟩
abbrev cX6_undo : ByteArray := prog_8_method_66_code
def yX6_undo : MethodName := ⟨RX6, "undo", "()I"⟩
abbrev cX6_note : ByteArray := prog_8_method_67_code
def yX6_note : MethodName := ⟨RX6, "note", "(III)I"⟩
abbrev cX6_hand : ByteArray := prog_8_method_68_code
def yX6_hand : MethodName := ⟨RX6, "hand", "(III)I"⟩
abbrev cX6_beat : ByteArray := prog_8_method_69_code
def yX6_beat : MethodName := ⟨RX6, "beat", "(II)I"⟩
abbrev cX6_whole : ByteArray := prog_8_method_70_code
def yX6_whole : MethodName := ⟨RX6, "whole", "(I)I"⟩
abbrev cX6_whatIf : ByteArray := prog_8_method_71_code
def yX6_whatIf : MethodName := ⟨RX6, "whatIf", "(III)I"⟩
abbrev cX6_smallestSpan : ByteArray := prog_8_method_72_code
def yX6_smallestSpan : MethodName := ⟨RX6, "smallestSpan", "()I"⟩
abbrev cX6_dearest : ByteArray := prog_8_method_73_code
def yX6_dearest : MethodName := ⟨RX6, "dearest", "()I"⟩
abbrev cX6_bestTransposition : ByteArray := prog_8_method_74_code
def yX6_bestTransposition : MethodName := ⟨RX6, "bestTransposition", "(I)I"⟩
abbrev cX6_writes : ByteArray := prog_8_method_75_code
def yX6_writes : MethodName := ⟨RX6, "writes", "(III)Z"⟩
abbrev cX6_does : ByteArray := prog_8_method_76_code
def yX6_does : MethodName := ⟨RX6, "does", "(IIII)Z"⟩
abbrev cX6_runScript : ByteArray := prog_8_method_77_code
def yX6_runScript : MethodName := ⟨RX6, "runScript", "(IJ)I"⟩
abbrev cX6_simulate : ByteArray := prog_8_method_78_code
def yX6_simulate : MethodName := ⟨RX6, "simulate", "(JI)I"⟩
abbrev cX6_save : ByteArray := prog_8_method_79_code
def yX6_save : MethodName := ⟨RX6, "save", "(I)I"⟩
abbrev cX6_restore : ByteArray := prog_8_method_80_code
def yX6_restore : MethodName := ⟨RX6, "restore", "(I)I"⟩
def RJ6 : String := "java/lang/Integer"
def TJ6 : u_T := fun k => match k with
  | _ => ("", "", "", false)
def tyJ6 : Nat → FieldType := fun k => match k with
  | _ => .int
abbrev wsJ60 : List Cond := u_ws RJ6 TJ6 0
theorem nmJ6 : ∀ a, a < 0 → ∀ b, b < 0 → a ≠ b → (TJ6 a).2.1 ≠ (TJ6 b).2.1 := by decide +kernel
theorem tyJ6_ok : ∀ k, k < 0 → parseFieldDescriptor (TJ6 k).2.2.1 = some (tyJ6 k) := by decide +kernel
abbrev cJ6_bitCount_0f7a4 : ByteArray := prog_13_method_49_code
def yJ6_bitCount_0f7a4 : MethodName := ⟨RJ6, "bitCount", "(I)I"⟩
def RJ9 : String := "java/lang/Math"
def TJ9 : u_T := fun k => match k with
  | _ => ("", "", "", false)
def tyJ9 : Nat → FieldType := fun k => match k with
  | _ => .int
abbrev wsJ90 : List Cond := u_ws RJ9 TJ9 0
theorem nmJ9 : ∀ a, a < 0 → ∀ b, b < 0 → a ≠ b → (TJ9 a).2.1 ≠ (TJ9 b).2.1 := by decide +kernel
theorem tyJ9_ok : ∀ k, k < 0 → parseFieldDescriptor (TJ9 k).2.2.1 = some (tyJ9 k) := by decide +kernel
abbrev cJ9_abs_0f7a4 : ByteArray := prog_14_method_59_code
def yJ9_abs_0f7a4 : MethodName := ⟨RJ9, "abs", "(I)I"⟩
def RL : String := "HandSpansLaw"
abbrev cL_append : ByteArray := method_3_code
def yL_append : MethodName := ⟨RL, "append", "(LHandSpans;I[J)I"⟩
abbrev cL_load : ByteArray := method_4_code
def yL_load : MethodName := ⟨RL, "load", "(LHandSpans;[J)I"⟩
abbrev cL_about : ByteArray := method_5_code
def yL_about : MethodName := ⟨RL, "about", "(LHandSpans;I[J)I"⟩
abbrev cL_cell : ByteArray := method_6_code
def yL_cell : MethodName := ⟨RL, "cell", "(LHandSpans;IIZ[J)I"⟩
abbrev cL_set : ByteArray := method_7_code
def yL_set : MethodName := ⟨RL, "set", "(LHandSpans;II[J)I"⟩
abbrev cL_write : ByteArray := method_8_code
def yL_write : MethodName := ⟨RL, "write", "(LHandSpans;III[J)I"⟩
abbrev cL_transpose : ByteArray := method_9_code
def yL_transpose : MethodName := ⟨RL, "transpose", "(LHandSpans;II[J)I"⟩
abbrev cL_exchange : ByteArray := method_10_code
def yL_exchange : MethodName := ⟨RL, "exchange", "(LHandSpans;II[J)I"⟩
abbrev cL_staff : ByteArray := method_11_code
def yL_staff : MethodName := ⟨RL, "staff", "(LHandSpans;Z[J)I"⟩
abbrev cL_insertBeat : ByteArray := method_12_code
def yL_insertBeat : MethodName := ⟨RL, "insertBeat", "(LHandSpans;I[J)I"⟩
abbrev cL_removeBeat : ByteArray := method_13_code
def yL_removeBeat : MethodName := ⟨RL, "removeBeat", "(LHandSpans;I[J)I"⟩
abbrev cL_undo : ByteArray := method_14_code
def yL_undo : MethodName := ⟨RL, "undo", "(LHandSpans;[J)I"⟩
abbrev cL_note : ByteArray := method_15_code
def yL_note : MethodName := ⟨RL, "note", "(LHandSpans;III[J)I"⟩
abbrev cL_hand : ByteArray := method_16_code
def yL_hand : MethodName := ⟨RL, "hand", "(LHandSpans;III[J)I"⟩
abbrev cL_beat : ByteArray := method_17_code
def yL_beat : MethodName := ⟨RL, "beat", "(LHandSpans;II[J)I"⟩
abbrev cL_whole : ByteArray := method_18_code
def yL_whole : MethodName := ⟨RL, "whole", "(LHandSpans;I[J)I"⟩
abbrev cL_whatIf : ByteArray := method_19_code
def yL_whatIf : MethodName := ⟨RL, "whatIf", "(LHandSpans;III[J)I"⟩
abbrev cL_bestTransposition : ByteArray := method_20_code
def yL_bestTransposition : MethodName := ⟨RL, "bestTransposition", "(LHandSpans;I[J)I"⟩
abbrev cL_runScript : ByteArray := method_21_code
def yL_runScript : MethodName := ⟨RL, "runScript", "(LHandSpans;IJ[J)I"⟩
abbrev cL_simulate : ByteArray := method_22_code
def yL_simulate : MethodName := ⟨RL, "simulate", "(LHandSpans;JI[J)I"⟩
abbrev cL_save : ByteArray := method_23_code
def yL_save : MethodName := ⟨RL, "save", "(LHandSpans;I[J)I"⟩
abbrev cL_restore : ByteArray := method_24_code
def yL_restore : MethodName := ⟨RL, "restore", "(LHandSpans;I[J)I"⟩
abbrev cL_law : ByteArray := code
def yL_law : MethodName := ⟨RL, "law", "([I)Z"⟩
abbrev vwCl : List vw_C := [(RX0, TX0, 14), (RX1, TX1, 3), (RX2, TX2, 5), (RX3, TX3, 4), (RX4, TX4, 3), (RX5, TX5, 7), (RX6, TX6, 19)]
end
section
/-! ===== BEGIN words of one list among another's, by their places ===== -/
theorem goodIn_r {big : List Cond} (ws : List Cond) (ps : List Nat) (hp : ws = ps.filterMap (fun i => big[i]?)) (h : ws.all goodWord = true) : GoodIn big ws := by
  intro w hw
  have h1 := List.all_eq_true.mp h w hw
  rw [hp] at hw
  obtain ⟨i, -, hi⟩ := List.mem_filterMap.mp hw
  have hm : w ∈ big := by first | exact List.mem_of_getElem? hi | exact List.getElem?_mem hi
  exact ⟨hm, good_of_word h1⟩
theorem goodIn_app {big a b : List Cond} (ha : GoodIn big a) (hb : GoodIn big b) : GoodIn big (a ++ b) := fun w h => (List.mem_append.mp h).elim (ha w) (hb w)
theorem goodIn_ca {big a b : List Cond} {c : Cond} (ha : GoodIn big (c :: a)) (hb : GoodIn big b) : GoodIn big (c :: (a ++ b)) := fun w h => (List.mem_cons.mp h).elim (fun e => ha w (List.mem_cons.mpr (Or.inl e))) (fun h => (List.mem_append.mp h).elim (fun h => ha w (List.mem_cons.mpr (Or.inr h))) (hb w))
theorem goodIn_sub {big ws : List Cond} (hm : ∀ w ∈ ws, w ∈ big) (h : ws.all goodWord = true) : GoodIn big ws := fun w hw => ⟨hm w hw, good_of_word (List.all_eq_true.mp h w hw)⟩
/-! ===== END ===== -/
/-! ===== BEGIN exceptions that leave a method, and their catching by the caller (launches without stack traces) ===== -/
section VXA
/-! The laws vx_back, vx_callV, vx_callS, vx_callSW, vx_throw0, vx_throwS follow proofs of the library, with one case more: JvmDerived/Free/Laws.lean (Back.of_free), Shelf42/LK1.lean (callV, callS), Shelf/KitTraced.lean (throwNew0V, throwNewS). -/
/-- where a method has thrown q: the class by its name, the cell, what was written, the world -/
def vx_T (XC : String → State → State → Prop) (st : State) (q : Addr) (t : State) (mc ms : Nat) (free : Addr → Prop) : Prop :=
  ∃ (E : String) (ce : Cell) (L : List Loc), XC E st t ∧ t.heap[q]? = some ce ∧ ce.vm = .none ∧ st.vm.findClass E = some ce.cls ∧ st.WarmedH t.vm ∧ st.sameButNew ({ t with vm := st.vm } : State) L mc ms ∧ ∀ z ∈ L, free z.base
def vx_Q (Qc : Array Value → State → Outcome → State → Prop) (XC : String → State → State → Prop) (mc ms : Nat) (free : Addr → Prop) : Array Value → State → Outcome → State → Prop := fun a st o t =>
  (Qc a st o t ∧ ∃ L, FrameEnd st o t L mc ms ∧ ∀ q ∈ L, free q.base) ∨ ∃ q, o = .threw q ∧ vx_T XC st q t mc ms free
/-- a callee that returns or throws -/
def vx_Met (l : Launch) (y : MethodName) (ws : List Cond) (rm : Room) (Pc : Array Value → State → Prop) (Qc : Array Value → State → Outcome → State → Prop) (XC : String → State → State → Prop) (mc ms : Nat) (free : Addr → Prop) : Prop :=
  MetFree l y (headSpec ws rm) Pc (fun _ _ _ _ _ => True) (vx_Q Qc XC mc ms free)
def vx_Post (XC : String → State → State → Prop) (mc ms : Nat) (free : Addr → Prop) : Pt → Array Value → Addr → Pt → Prop := fun A a q B =>
  ∃ (g : JFrame) (mk : MethodId) (t : State) (L : List Loc) (E : String) (ce : Cell), B.U.heap = t.heap ∧ B.U.vm = t.vm ∧ XC E (A.U.calling g mk a) t ∧ t.heap[q]? = some ce ∧ ce.vm = .none ∧ A.U.vm.findClass E = some ce.cls ∧ B.locs = A.locs ++ L ∧ (∀ z ∈ L, free z.base) ∧ B.cells = A.cells + mc ∧ B.slots = A.slots + ms
def vx_Back (l : Launch) (R : Room) (p : Program) (e : Env) (below : List Frame) (s : State) (sargs : Array Value) (y : MethodName) (len W9 : Nat)
    (Pre : Pt → Array Value → Prop) (Post : Pt → Array Value → Option Value → Pt → Prop) (PostX : Pt → Array Value → Addr → Pt → Prop) : Prop :=
  ∀ (m : MethodId) (meth : Method) (c : Code) (A : Pt) (g : JFrame) (ig : Instr) (mk : MethodId) (a : Array Value),
    Stand p l e R s m sargs below meth c A.U A.locs A.cells A.slots → g.method = m → g.locals.size = c.maxLocals → decode c.code g.pc = .ok (ig, len) →
    2 * g.monitorRoom + (g.stack.map fun v => v.category).sum ≤ W9 → A.U.methodNamed? y = some mk → Pre A a →
    (∃ (v : Option Value) (B : Pt), Stand p l e R s m sargs below meth c B.U B.locs B.cells B.slots ∧ Post A a v B ∧
      Steps p.tables e below (doInvoke e (A.U.setTop g) [] mk a).1 (B.U.setTop { g with pc := g.pc + len, stack := v.toList ++ g.stack })) ∨
    (∃ (q : Addr) (B : Pt), Stand p l e R s m sargs below meth c B.U B.locs B.cells B.slots ∧ PostX A a q B ∧
      Steps p.tables e below (doInvoke e (A.U.setTop g) [] mk a).1 ((B.U.setTop g).pushFrame (.throwing q)))
section Payer
variable {l : Launch} {R : Room} {p : Program} {e : Env} {below : List Frame} {s : State} {sargs : Array Value} {y : MethodName} {len W9 : Nat}
theorem vx_back {ws : List Cond} {rm : Room} {Pc : Array Value → State → Prop} {Qc : Array Value → State → Outcome → State → Prop} {XC : String → State → State → Prop} {mc ms : Nat} {free : Addr → Prop} {bytes : ByteArray} {maxL : Nat} {ret : Option FieldType}
    (hM : vx_Met l y ws rm Pc Qc XC mc ms free) (hblind : FrameBlind Pc) (hrc : rm.cells = mc) (hrs : rm.slots = ms)
    (hframes : rm.frames + 1 ≤ R.frames) (hlocals : W9 + (maxL + 11) + rm.locals ≤ R.locals)
    (hws : ∀ w ∈ ws, ∀ a' U, s.WarmedH U.vm → w.before a' U = true) (hcode : Cond.code y bytes maxL ret ∈ ws) (hinit : ∀ a' U, s.WarmedH U.vm → (Cond.initialized y.cls).before a' U = true) :
    vx_Back l R p e below s sargs y len W9 (PreOf R mc ms Pc) (PostOf Qc mc ms free) (vx_Post XC mc ms free) := by
  intro m meth c A g ig mk a X hg hsize hdg hW hn hp
  have h1 : (headSpec ws rm).pre.before a A.U = true := atoms_intro fun w hw => hws w hw _ _ X.warmed
  have h2 : (Cond.code y bytes maxL ret).before a A.U = true := hws _ hcode _ _ X.warmed
  have h3 : (Cond.initialized y.cls).before a A.U = true := hinit _ _ X.warmed
  have h4 : A.cells + (headSpec ws rm).room.cells ≤ R.cells := by rw [show (headSpec ws rm).room.cells = mc from hrc]; exact hp.1
  have h5 : A.slots + (headSpec ws rm).room.slots ≤ R.slots := by rw [show (headSpec ws rm).room.slots = ms from hrs]; exact hp.2.1
  have hPc : Pc a (A.U.calling g mk a) := hblind _ _ _ _ hp.2.2
  obtain ⟨U, Ls, c0, s0⟩ := A
  dsimp only [Pt.U, Pt.locs, Pt.cells, Pt.slots] at h1 h2 h3 h4 h5 X hn hPc ⊢
  obtain ⟨methY, cY, hmY, hcY, -, hlY, -, -, -, -⟩ := Cond.code_spec hn h2
  obtain ⟨kY, hkY, -⟩ := className_of_methodNamed hn
  have hinitY : kY.init = .initialized := Cond.initialized_spec (findClass_of_methodNamed hn) hkY h3
  have h : At U g.method c below := by rw [hg]; exact X.here
  have hlocals9 : W9 + (maxL + 11) + (headSpec ws rm).room.locals ≤ R.locals := hlocals
  have happ : (headSpec ws rm).appliesLoose y e.platform (U.calling g mk a) = true :=
    Spec.appliesLoose_calling (g := g) h hdg hn hkY hinitY
      (X.room_calling (g := g) (R' := (headSpec ws rm).room) hsize hmY hcY hframes (by rw [hlY]; omega) h4 h5) h1
  obtain ⟨mid, hmid⟩ := h.above
  have hfr : (U.setTop g).frames = (.java g :: mid) ++ below := by rw [State.frames_setTop' g h.top, hmid]; rfl
  obtain ⟨o, s₂, hsteps, -, hend, hq⟩ := Steps.callFree hM p X.admits X.cas X.clock (acts := []) hfr happ hPc trivial
  have hq' : vx_Q Qc XC mc ms free a (U.calling g mk a) o s₂ := hq
  rw [State.frames_setTop' g h.top] at hend
  obtain ⟨g₀, hg0⟩ := Option.isSome_iff_exists.mp h.top
  obtain ⟨r, hr⟩ := State.topJava?_eq_some.mp hg0
  have hr' : (({ U with heap := s₂.heap, slotsUsed := s₂.slotsUsed } : State).setVm s₂.vm).frames = .java g₀ :: r := hr
  rcases hq' with ⟨hqc, L, hfe, hL⟩ | ⟨q, rfl, E, ce, L, hx, hce, hcv, hcl, hW₂, hsm, hL⟩
  · obtain ⟨⟨v, rfl⟩, hW₂, e2, q2, q3, q4, q5, q6⟩ := id hfe
    have e3 : s₂ = ({ (U.calling g mk a).setFrames s₂.frames with heap := s₂.heap, slotsUsed := s₂.slotsUsed } : State).setVm s₂.vm := by
      have : s₂ = ({ s₂ with vm := (U.calling g mk a).vm } : State).setVm s₂.vm := rfl
      rw [e2] at this
      exact this
    obtain ⟨c₂, i₂, len₂, hc₂, hd₂, hf₂⟩ := hend
    have hW' : U.WarmedH s₂.vm := hW₂
    have hcc : c₂ = c := by
      have h1 : s₂.code? g.method = U.code? g.method := by
        rw [State.code?_eq, State.code?_eq, hW'.alike.method?]
      exact Option.some.inj (hc₂.symm.trans (h1.trans h.code))
    subst hcc
    have hlen : len₂ = len := by rw [hdg] at hd₂; cases hd₂; rfl
    subst hlen
    have hs₂ : s₂ = (({ U with heap := s₂.heap, slotsUsed := s₂.slotsUsed } : State).setVm s₂.vm).setTop { g with pc := g.pc + len₂, stack := v.toList ++ g.stack } := by
      refine e3.trans ?_
      rw [hf₂, State.calling_eq h.top, State.setFrames_setFrames, State.setTop_of_frames _ hr', hr]
      rfl
    have hsame : U.sameButNew ({ U with heap := s₂.heap, slotsUsed := s₂.slotsUsed } : State) L mc ms := by
      refine ⟨?_, q2, q3, q4, q5, q6⟩
      obtain ⟨t, ht, -⟩ := State.frames_cons hr
      show ({ U with heap := s₂.heap, slotsUsed := s₂.slotsUsed } : State) = { U.setFrames U.frames with heap := s₂.heap, slotsUsed := s₂.slotsUsed }
      rw [State.setFrames_self ht]
    subst hg
    refine Or.inl ⟨v, ⟨(({ U with heap := s₂.heap, slotsUsed := s₂.slotsUsed } : State).setVm s₂.vm), Ls ++ L, c0 + mc, s0 + ms⟩,
      ⟨X.admits, X.cas, X.clock, X.frames, X.room, X.hears, X.method, X.code, (X.here.setHeapUsed s₂.heap s₂.slotsUsed).setVm hW'.alike, X.tail, State.WarmedH.trans X.warmed hW', X.limits, X.bytes, X.same.trans (hsame.setVm s.vm)⟩,
      ⟨g, mk, s₂, L, rfl, rfl, hqc, rfl, hL, rfl, rfl⟩, ?_⟩
    show Steps p.tables e below _ ((({ U with heap := s₂.heap, slotsUsed := s₂.slotsUsed } : State).setVm s₂.vm).setTop { g with pc := g.pc + len₂, stack := v.toList ++ g.stack })
    rw [← hs₂]
    exact hsteps
  · obtain ⟨e2, q2, q3, q4, q5, q6⟩ := id hsm
    have e3 : s₂ = ({ (U.calling g mk a).setFrames s₂.frames with heap := s₂.heap, slotsUsed := s₂.slotsUsed } : State).setVm s₂.vm := by
      have : s₂ = ({ s₂ with vm := (U.calling g mk a).vm } : State).setVm s₂.vm := rfl
      rw [e2] at this
      exact this
    have hf₂ : s₂.frames = .throwing q :: .java g :: U.frames.tail := hend
    have hW' : U.WarmedH s₂.vm := hW₂
    have hs₂ : s₂ = ((({ U with heap := s₂.heap, slotsUsed := s₂.slotsUsed } : State).setVm s₂.vm).setTop g).pushFrame (.throwing q) := by
      refine e3.trans ?_
      rw [hf₂, State.calling_eq h.top, State.setFrames_setFrames, State.pushFrame, State.frames_setTop _ hr', State.setTop_of_frames _ hr', State.setFrames_setFrames, hr]
      rfl
    have hsame : U.sameButNew ({ U with heap := s₂.heap, slotsUsed := s₂.slotsUsed } : State) L mc ms := by
      refine ⟨?_, q2, q3, q4, q5, q6⟩
      obtain ⟨t, ht, -⟩ := State.frames_cons hr
      show ({ U with heap := s₂.heap, slotsUsed := s₂.slotsUsed } : State) = { U.setFrames U.frames with heap := s₂.heap, slotsUsed := s₂.slotsUsed }
      rw [State.setFrames_self ht]
    subst hg
    refine Or.inr ⟨q, ⟨(({ U with heap := s₂.heap, slotsUsed := s₂.slotsUsed } : State).setVm s₂.vm), Ls ++ L, c0 + mc, s0 + ms⟩,
      ⟨X.admits, X.cas, X.clock, X.frames, X.room, X.hears, X.method, X.code, (X.here.setHeapUsed s₂.heap s₂.slotsUsed).setVm hW'.alike, X.tail, State.WarmedH.trans X.warmed hW', X.limits, X.bytes, X.same.trans (hsame.setVm s.vm)⟩,
      ⟨g, mk, s₂, L, E, ce, rfl, rfl, hx, hce, hcv, hcl, rfl, hL, rfl, rfl⟩, ?_⟩
    show Steps p.tables e below _ (((({ U with heap := s₂.heap, slotsUsed := s₂.slotsUsed } : State).setVm s₂.vm).setTop g).pushFrame (.throwing q))
    rw [← hs₂]
    exact hsteps
end Payer
section Calls
variable {p : Program} {l : Launch} {e : Env} {R : Room} {s : State} {m : MethodId} {args : Array Value} {below : List Frame} {meth : Method} {c : Code} {T : State} {locs : List Loc} {cells slots : Nat}
theorem vx_callV (X : Stand p l e R s m args below meth c T locs cells slots) (hexec : p.tables.exec = Jvm.exec) {own C : String} {index : Nat} {y : MethodName} {bytes : ByteArray} {maxL : Nat} {ret : Option FieldType}
    (hown : s.vm.findClass own = some m.cls) (hlink : (Cond.methodLink own index y).before args s = true) (hinst : (Cond.instanceMethod y).before args s = true) (hsel : (Cond.selects C y y).before args s = true)
    (hcode : (Cond.code y bytes maxL ret).before args s = true) (hy : y.cls ≠ "java/lang/invoke/MethodHandle" ∧ y.cls ≠ "java/lang/invoke/VarHandle")
    {W9 : Nat} {Pre : Pt → Array Value → Prop} {Post : Pt → Array Value → Option Value → Pt → Prop} {PostX : Pt → Array Value → Addr → Pt → Prop} (hK : vx_Back l R p e below s args y 3 W9 Pre Post PostX)
    {b : Addr} {cellB : Cell} (hcell : T.heap[b]? = some cellB) (hobj : cellB.vm.isStatics = false) (hcls : s.vm.findClass C = some cellB.cls)
    {g : JFrame} (hg : g.method = m) (hsize : g.locals.size = c.maxLocals) {argsL rest : List Value} (hlen : ∀ sig, parseMethodDescriptor y.desc = some sig → argsL.length = sig.parameters.length)
    (hstack : g.stack = argsL.reverse ++ .ref b :: rest) (hW : 2 * g.monitorRoom + (rest.map fun v => v.category).sum ≤ W9) (hdg : decode c.code g.pc = .ok (.invokevirtual index, 3))
    (hpre : ∀ vm₁, s.WarmedH vm₁ → Pre ⟨T.setVm vm₁, locs, cells, slots⟩ (Value.ref b :: argsL).toArray) :
    (∃ (v : Option Value) (vm₁ : Vm) (B : Pt), s.WarmedH vm₁ ∧ Stand p l e R s m args below meth c B.U B.locs B.cells B.slots ∧ Post ⟨T.setVm vm₁, locs, cells, slots⟩ (Value.ref b :: argsL).toArray v B ∧
      ∀ target, Steps p.tables e below (B.U.setTop { g with pc := g.pc + 3, stack := v.toList ++ rest }) target → Steps p.tables e below (T.setTop g) target) ∨
    (∃ (q : Addr) (vm₁ : Vm) (B : Pt), s.WarmedH vm₁ ∧ Stand p l e R s m args below meth c B.U B.locs B.cells B.slots ∧ PostX ⟨T.setVm vm₁, locs, cells, slots⟩ (Value.ref b :: argsL).toArray q B ∧
      Steps p.tables e below (T.setTop g) ((B.U.setTop { g with stack := rest }).pushFrame (.throwing q))) := by
  obtain ⟨mk, methM, hnamed, hmethM, hstM, habM⟩ := Cond.instanceMethod_spec hinst
  obtain ⟨methM', cM, hmethM', -, -, -, -, -, -, hsigM⟩ := Cond.code_spec hnamed hcode
  cases hmethM.symm.trans hmethM'
  obtain ⟨c2, r2, m2, q1, q2, q3, q4, kP, hkP, hkPi⟩ := Cond.selects_spec hsel
  cases hcls.symm.trans q1
  cases (State.methodFound?_of_named hnamed hy).symm.trans q2
  cases hnamed.symm.trans q3
  have hselP : selectMethod e.platform s.vm cellB.cls mk = .method mk := by rw [Launch.admits_selectMethod X.admits]; exact q4
  obtain ⟨vm₁, X₁, hstep₁⟩ := X.invokevirtual hexec hown hlink hnamed hmethM hstM hkP hkPi hy (a := b) (cell := cellB) hcell
    (fun z h => by rw [h] at hobj; cases hobj) hselP hmethM habM hkP hkPi (g := g) hg (argsL := argsL) (rest := rest) (hlen _ hsigM) hstack hdg
  rcases hK m meth c ⟨T.setVm vm₁, locs, cells, slots⟩ { g with stack := rest } (.invokevirtual index) mk (Value.ref b :: argsL).toArray X₁ hg hsize hdg hW (X₁.named hnamed) (hpre vm₁ X₁.warmed) with ⟨v, B, X', hpost, hsteps⟩ | ⟨q, B, X', hpost, hsteps⟩
  · exact Or.inl ⟨v, vm₁, B, X₁.warmed, X', hpost, fun target h => hstep₁ _ fun acts => by rw [doInvoke_state]; exact hsteps.trans h⟩
  · exact Or.inr ⟨q, vm₁, B, X₁.warmed, X', hpost, hstep₁ _ fun acts => by rw [doInvoke_state]; exact hsteps⟩
theorem vx_callS (X : Stand p l e R s m args below meth c T locs cells slots) (hexec : p.tables.exec = Jvm.exec) {own : String} {index : Nat} {y : MethodName} {bytes : ByteArray} {maxL : Nat} {ret : Option FieldType}
    (hown : s.vm.findClass own = some m.cls) (hlink : (Cond.methodLink own index y).before args s = true) (hstat : (Cond.static y).before args s = true) (hinit : (Cond.initialized y.cls).before args s = true)
    (hcode : (Cond.code y bytes maxL ret).before args s = true) (hy : y.cls ≠ "java/lang/invoke/MethodHandle" ∧ y.cls ≠ "java/lang/invoke/VarHandle")
    {W9 : Nat} {Pre : Pt → Array Value → Prop} {Post : Pt → Array Value → Option Value → Pt → Prop} {PostX : Pt → Array Value → Addr → Pt → Prop} (hK : vx_Back l R p e below s args y 3 W9 Pre Post PostX)
    {g : JFrame} (hg : g.method = m) (hsize : g.locals.size = c.maxLocals) {argsL rest : List Value} (hlen : ∀ sig, parseMethodDescriptor y.desc = some sig → argsL.length = sig.parameters.length)
    (hstack : g.stack = argsL.reverse ++ rest) (hW : 2 * g.monitorRoom + (rest.map fun v => v.category).sum ≤ W9) (hdg : decode c.code g.pc = .ok (.invokestatic index, 3))
    (hpre : ∀ vm₁, s.WarmedH vm₁ → Pre ⟨T.setVm vm₁, locs, cells, slots⟩ argsL.toArray) :
    (∃ (v : Option Value) (vm₁ : Vm) (B : Pt), s.WarmedH vm₁ ∧ Stand p l e R s m args below meth c B.U B.locs B.cells B.slots ∧ Post ⟨T.setVm vm₁, locs, cells, slots⟩ argsL.toArray v B ∧
      ∀ target, Steps p.tables e below (B.U.setTop { g with pc := g.pc + 3, stack := v.toList ++ rest }) target → Steps p.tables e below (T.setTop g) target) ∨
    (∃ (q : Addr) (vm₁ : Vm) (B : Pt), s.WarmedH vm₁ ∧ Stand p l e R s m args below meth c B.U B.locs B.cells B.slots ∧ PostX ⟨T.setVm vm₁, locs, cells, slots⟩ argsL.toArray q B ∧
      Steps p.tables e below (T.setTop g) ((B.U.setTop { g with stack := rest }).pushFrame (.throwing q))) := by
  obtain ⟨mk, hnamed⟩ := Cond.code_named hcode
  obtain ⟨methM, cM, hmethM, -, -, -, -, -, -, hsigM⟩ := Cond.code_spec hnamed hcode
  have hstatic : methM.isStatic = true := Cond.static_spec hnamed hmethM hstat
  obtain ⟨kP, hkP, -⟩ := className_of_methodNamed hnamed
  have hinitP : kP.init = .initialized := Cond.initialized_spec (findClass_of_methodNamed hnamed) hkP hinit
  obtain ⟨vm₁, X₁, hstep₁⟩ := X.invokestatic hexec hown hlink hnamed hmethM hstatic hkP hinitP hy (g := g) hg (argsL := argsL) (rest := rest) (hlen _ hsigM) hstack hdg
  rcases hK m meth c ⟨T.setVm vm₁, locs, cells, slots⟩ { g with stack := rest } (.invokestatic index) mk argsL.toArray X₁ hg hsize hdg hW (X₁.named hnamed) (hpre vm₁ X₁.warmed) with ⟨v, B, X', hpost, hsteps⟩ | ⟨q, B, X', hpost, hsteps⟩
  · exact Or.inl ⟨v, vm₁, B, X₁.warmed, X', hpost, fun target h => hstep₁ _ fun acts => by rw [doInvoke_state]; exact hsteps.trans h⟩
  · exact Or.inr ⟨q, vm₁, B, X₁.warmed, X', hpost, hstep₁ _ fun acts => by rw [doInvoke_state]; exact hsteps⟩
end Calls
theorem vx_cls {s : State} {T : State} {vm₁ : Vm} {E : String} {k : ClassId} (hW : s.WarmedH vm₁) (h : (T.setVm vm₁).vm.findClass E = some k) : s.vm.findClass E = some k := by
  have h1 : vm₁.findClass E = some k := h
  rw [hW.alike.findClass] at h1
  exact h1
/-- the method's frame g, with q thrown over it -/
def vx_W (p : Program) (l : Launch) (e : Env) (R : Room) (s : State) (m : MethodId) (args : Array Value) (below : List Frame) (meth : Method) (c : Code) (H : Heap) (locs : List Loc) (cells slots : Nat) (Q : State → Prop) (g : JFrame) (q : Addr) : Prop :=
  ∀ T : State, T.heap = H → Stand p l e R s m args below meth c T locs cells slots → ∃ t, Steps p.tables e below ((T.setTop g).pushFrame (.throwing q)) t ∧ Q t
def vx_Run (p : Program) (l : Launch) (e : Env) (R : Room) (s : State) (m : MethodId) (args : Array Value) (below : List Frame) (meth : Method) (c : Code) (H : Heap) (locs : List Loc) (cells slots mc ms : Nat) (g : JFrame) (rest : List Value) (Qa : State → Outcome → State → Prop) (XC : String → State → State → Prop) (free : Addr → Prop) : Prop :=
  ∀ T : State, T.heap = H → Stand p l e R s m args below meth c T locs cells slots →
    (∃ (v : Option Value) (st₀ t T' : State) (L : List Loc), st₀.heap = H ∧ Stand p l e R s m args below meth c T' (locs ++ L) (cells + mc) (slots + ms) ∧ (∀ q ∈ L, free q.base) ∧ T'.heap = t.heap ∧ T'.vm = t.vm ∧ Qa st₀ (.returned v) t ∧
      Goes p e below T g T' { g with pc := g.pc + 3, stack := v.toList ++ rest }) ∨
    (∃ (q : Addr) (st₀ t T' : State) (L : List Loc) (E : String) (ce : Cell), st₀.heap = H ∧ Stand p l e R s m args below meth c T' (locs ++ L) (cells + mc) (slots + ms) ∧ (∀ z ∈ L, free z.base) ∧ T'.heap = t.heap ∧ T'.vm = t.vm ∧ XC E st₀ t ∧ t.heap[q]? = some ce ∧ ce.vm = .none ∧ s.vm.findClass E = some ce.cls ∧
      Steps p.tables e below (T.setTop g) ((T'.setTop { g with stack := rest }).pushFrame (.throwing q)))
def vx_X {S : Type} (px : S → Prop) (B : String → S → State → Prop) (A : Nat → Prop) : String → State → State → Prop := fun E st t => ∃ u : S, px u ∧ B E u t ∧ va_F A st t
section Runs
variable {p : Program} {l : Launch} {e : Env} {R : Room} {s : State} {m : MethodId} {args : Array Value} {below : List Frame} {meth : Method} {c : Code} {H : Heap} {locs : List Loc} {cells slots : Nat}
variable {y : MethodName} {bytes cc : ByteArray} {maxL nL mc ms n index : Nat} {ret : Option FieldType} {ws : List Cond} {rm : Room} {Pc : Array Value → State → Prop} {Qc : Array Value → State → Outcome → State → Prop} {XC : String → State → State → Prop} {free : Addr → Prop} {Ts : List Cond} {own C : String} {b : Addr} {As rest : List Value} {g : JFrame}
theorem vx_callBack (cb : CallB R s args own index y bytes maxL ret ws rm mc ms n) (hM : vx_Met l y ws rm Pc Qc XC mc ms free) (hbl : FrameBlind Pc) : vx_Back l R p e below s args y 3 8 (PreOf R mc ms Pc) (PostOf Qc mc ms free) (vx_Post XC mc ms free) := by
  obtain ⟨hrc, hrs, hfr, hlo, hws, hcw, -, hini, -⟩ := cb
  exact vx_back (bytes := bytes) (maxL := maxL) (ret := ret) hM hbl hrc hrs hfr hlo hws hcw (fun a' U hW => word_at hW (Or.inl (by first | rfl | simp [Cond.onTables, Cond.keeps, Cond.steady])) hini)
theorem vx_runV (S : CallFix p m c cc nL s args Ts own) (hM : vx_Met l y ws rm Pc Qc XC mc ms free) (cw : CallW R s args own C index y bytes maxL ret ws rm mc ms n) (hp : PreV s H C b Pc As)
    (hg : g.method = m) (hn : As.length = n) (hsize : g.locals.size = nL) (hstack : g.stack = As.reverse ++ .ref b :: rest) (hW : 2 * g.monitorRoom + (rest.map fun v => v.category).sum ≤ 8) (hdg : decode cc g.pc = .ok (.invokevirtual index, 3)) (hf : cells + mc ≤ R.cells ∧ slots + ms ≤ R.slots) :
    vx_Run p l e R s m args below meth c H locs cells slots mc ms g rest (Qc (Value.ref b :: As).toArray) XC free := by
  have hK : vx_Back l R p e below s args y 3 8 (PreOf R mc ms Pc) (PostOf Qc mc ms free) (vx_Post XC mc ms free) := vx_callBack cw.1 hM hp.1
  obtain ⟨⟨-, -, -, -, -, -, hcode, -, hy, hlen, hl⟩, hin, hse⟩ := cw
  obtain ⟨hx, hb, hml, ho, -⟩ := S
  obtain ⟨-, ⟨cellB, hcB, hoB, hclB⟩, hPc⟩ := hp
  intro T hT X
  rcases vx_callV X hx (C := C) (bytes := bytes) (maxL := maxL) (ret := ret) ho hl hin hse hcode hy hK (by rw [hT]; exact hcB) hoB hclB hg (hsize.trans hml.symm) (argsL := As) (rest := rest) (fun sig h => hn.trans (hlen sig h)) hstack hW (by rw [hb]; exact hdg)
    (fun vm₁ hW₁ => ⟨hf.1, hf.2, hPc (T.setVm vm₁) hT hW₁⟩) with ⟨v, vm₁, ⟨U', l2, c2, s2⟩, hW₁, X', ⟨g', mk, t, L, e1, e2, hq, h1, hL, h2, h3⟩, st⟩ | ⟨q, vm₁, ⟨U', l2, c2, s2⟩, hW₁, X', ⟨g', mk, t, L, E, ce, e1, e2, hq, hce, hcv, hcl, h1, hL, h2, h3⟩, st⟩
  · dsimp only [Pt.U, Pt.locs, Pt.cells, Pt.slots] at X' e1 e2 h1 h2 h3 st
    subst h1; subst h2; subst h3
    exact Or.inl ⟨v, (T.setVm vm₁).calling g' mk (Value.ref b :: As).toArray, t, U', L, hT, X', hL, e1, e2, hq, st⟩
  · dsimp only [Pt.U, Pt.locs, Pt.cells, Pt.slots] at X' e1 e2 h1 h2 h3 st hcl
    subst h1; subst h2; subst h3
    exact Or.inr ⟨q, (T.setVm vm₁).calling g' mk (Value.ref b :: As).toArray, t, U', L, E, ce, hT, X', hL, e1, e2, hq, hce, hcv, vx_cls hW₁ hcl, st⟩
theorem vx_runS (S : CallFix p m c cc nL s args Ts own) (hM : vx_Met l y ws rm Pc Qc XC mc ms free) (cw : CallB R s args own index y bytes maxL ret ws rm mc ms n ∧ (Cond.static y).before args s = true) (hp : PreS s H Pc As)
    (hg : g.method = m) (hn : As.length = n) (hsize : g.locals.size = nL) (hstack : g.stack = As.reverse ++ rest) (hW : 2 * g.monitorRoom + (rest.map fun v => v.category).sum ≤ 8) (hdg : decode cc g.pc = .ok (.invokestatic index, 3)) (hf : cells + mc ≤ R.cells ∧ slots + ms ≤ R.slots) :
    vx_Run p l e R s m args below meth c H locs cells slots mc ms g rest (Qc As.toArray) XC free := by
  have hK : vx_Back l R p e below s args y 3 8 (PreOf R mc ms Pc) (PostOf Qc mc ms free) (vx_Post XC mc ms free) := vx_callBack cw.1 hM hp.1
  obtain ⟨⟨-, -, -, -, -, -, hcode, hini, hy, hlen, hl⟩, hstt⟩ := cw
  obtain ⟨hx, hb, hml, ho, -⟩ := S
  intro T hT X
  rcases vx_callS X hx (bytes := bytes) (maxL := maxL) (ret := ret) ho hl hstt hini hcode hy hK hg (hsize.trans hml.symm) (argsL := As) (rest := rest) (fun sig h => hn.trans (hlen sig h)) hstack hW (by rw [hb]; exact hdg)
    (fun vm₁ hW₁ => ⟨hf.1, hf.2, hp.2 (T.setVm vm₁) hT hW₁⟩) with ⟨v, vm₁, ⟨U', l2, c2, s2⟩, hW₁, X', ⟨g', mk, t, L, e1, e2, hq, h1, hL, h2, h3⟩, st⟩ | ⟨q, vm₁, ⟨U', l2, c2, s2⟩, hW₁, X', ⟨g', mk, t, L, E, ce, e1, e2, hq, hce, hcv, hcl, h1, hL, h2, h3⟩, st⟩
  · dsimp only [Pt.U, Pt.locs, Pt.cells, Pt.slots] at X' e1 e2 h1 h2 h3 st
    subst h1; subst h2; subst h3
    exact Or.inl ⟨v, (T.setVm vm₁).calling g' mk As.toArray, t, U', L, hT, X', hL, e1, e2, hq, st⟩
  · dsimp only [Pt.U, Pt.locs, Pt.cells, Pt.slots] at X' e1 e2 h1 h2 h3 st hcl
    subst h1; subst h2; subst h3
    exact Or.inr ⟨q, (T.setVm vm₁).calling g' mk As.toArray, t, U', L, E, ce, hT, X', hL, e1, e2, hq, hce, hcv, vx_cls hW₁ hcl, st⟩
end Runs
section Rows
variable {p : Program} {l : Launch} {e : Env} {R : Room} {s : State} {m : MethodId} {args : Array Value} {below : List Frame} {meth : Method} {c : Code} {H : Heap} {locs : List Loc} {cells slots : Nat} {Q : State → Prop}
variable {mc ms : Nat} {free : Addr → Prop} {A0 A1 : Nat → Prop} {H0 : Heap} {a : Array Value} {pc : Nat} {ls : Array Slot} {st0 rest : List Value}
theorem vx_keep {st₀ t T' : State} {L : List Loc} (h0 : st₀.heap = H) (e1 : T'.heap = t.heap) (hS : va_S A0 H0 H locs) (hA : ∀ q, q < H.size → A1 q → A0 q) (hf : ∀ q, free q → A0 q) (hL : ∀ q ∈ L, free q.base) (hF : va_F A1 st₀ t) :
    H.size ≤ T'.heap.size ∧ (∀ q : Nat, q < H.size → ¬ A1 q → T'.heap[q]? = H[q]?) ∧ va_S A0 H0 T'.heap (locs ++ L) := by
  obtain ⟨hz, hk⟩ := hF
  rw [h0] at hz hk
  exact ⟨by rw [e1]; exact hz, fun q h1 h2 => by rw [e1]; exact hk q h1 h2,
    ⟨Nat.le_trans hS.1 (by rw [e1]; exact hz), fun q h1 h2 => by rw [e1, hk q (Nat.lt_of_lt_of_le h1 hS.1) (fun z => h2 (hA q (Nat.lt_of_lt_of_le h1 hS.1) z))]; exact hS.2.1 q h1 h2, fun q hq => by
      rcases List.mem_append.mp hq with h | h
      · exact hS.2.2 q h
      · exact hf _ (hL q h)⟩⟩
theorem vx_calli {S SX : Type} {post : Int32 → S → Prop} {px : SX → Prop} {B : S → State → Prop} {BX : String → SX → State → Prop} {AX : Nat → Prop} (hr : vx_Run p l e R s m args below meth c H locs cells slots mc ms (F0 m pc ls st0) rest (va_Qi post B A1 a) (vx_X px BX AX) free) (hS : va_S A0 H0 H locs) (hA : ∀ q, q < H.size → A1 q → A0 q) (hf : ∀ q, free q → A0 q) (hAX : ∀ q, q < H.size → AX q → A0 q)
    (kx : ∀ (E : String) (ce : Cell) (q9 : Addr) (u : SX) (t : State) (H1 : Heap) (locs1 : List Loc), t.heap = H1 → s.vm.Alike t.vm → px u → BX E u t → H.size ≤ H1.size → (∀ q : Nat, q < H.size → ¬ AX q → H1[q]? = H[q]?) → va_S A0 H0 H1 locs1 → H1[q9]? = some ce → ce.vm = .none → s.vm.findClass E = some ce.cls → vx_W p l e R s m args below meth c H1 locs1 (cells + mc) (slots + ms) Q (F0 m pc ls rest) q9)
    (kk : ∀ (r : Int32) (u : S) (t : State) (H1 : Heap) (locs1 : List Loc), t.heap = H1 → s.vm.Alike t.vm → post r u → B u t → H.size ≤ H1.size → (∀ q : Nat, q < H.size → ¬ A1 q → H1[q]? = H[q]?) → va_S A0 H0 H1 locs1 → W p l e R s m args below meth c H1 locs1 (cells + mc) (slots + ms) Q (F0 m (pc + 3) ls (.int r :: rest))) : W p l e R s m args below meth c H locs cells slots Q (F0 m pc ls st0) := by
  intro T hT X
  rcases hr T hT X with ⟨v, st₀, t, T', L, h0, X', hL, e1, e2, ⟨⟨r, u, hv, hp, hb⟩, hF⟩, st⟩ | ⟨q, st₀, t, T', L, E, ce, h0, X', hL, e1, e2, ⟨u, hp, hb, hF⟩, hce, hcv, hcl, st⟩
  · cases hv
    obtain ⟨k1, k2, k3⟩ := vx_keep h0 e1 hS hA hf hL hF
    obtain ⟨t2, a1, b1⟩ := kk r u t T'.heap (locs ++ L) e1.symm (by rw [← e2]; exact X'.warmed.alike) hp hb k1 k2 k3 T' rfl X'
    exact ⟨t2, st t2 a1, b1⟩
  · obtain ⟨k1, k2, k3⟩ := vx_keep h0 e1 hS hAX hf hL hF
    obtain ⟨t2, a1, b1⟩ := kx E ce q u t T'.heap (locs ++ L) e1.symm (by rw [← e2]; exact X'.warmed.alike) hp hb k1 k2 k3 (by rw [e1]; exact hce) hcv hcl T' rfl X'
    exact ⟨t2, st.trans a1, b1⟩
theorem vx_calll {S SX : Type} {post : Int64 → S → Prop} {px : SX → Prop} {B : S → State → Prop} {BX : String → SX → State → Prop} {AX : Nat → Prop} (hr : vx_Run p l e R s m args below meth c H locs cells slots mc ms (F0 m pc ls st0) rest (va_Ql post B A1 a) (vx_X px BX AX) free) (hS : va_S A0 H0 H locs) (hA : ∀ q, q < H.size → A1 q → A0 q) (hf : ∀ q, free q → A0 q) (hAX : ∀ q, q < H.size → AX q → A0 q)
    (kx : ∀ (E : String) (ce : Cell) (q9 : Addr) (u : SX) (t : State) (H1 : Heap) (locs1 : List Loc), t.heap = H1 → s.vm.Alike t.vm → px u → BX E u t → H.size ≤ H1.size → (∀ q : Nat, q < H.size → ¬ AX q → H1[q]? = H[q]?) → va_S A0 H0 H1 locs1 → H1[q9]? = some ce → ce.vm = .none → s.vm.findClass E = some ce.cls → vx_W p l e R s m args below meth c H1 locs1 (cells + mc) (slots + ms) Q (F0 m pc ls rest) q9)
    (kk : ∀ (r : Int64) (u : S) (t : State) (H1 : Heap) (locs1 : List Loc), t.heap = H1 → s.vm.Alike t.vm → post r u → B u t → H.size ≤ H1.size → (∀ q : Nat, q < H.size → ¬ A1 q → H1[q]? = H[q]?) → va_S A0 H0 H1 locs1 → W p l e R s m args below meth c H1 locs1 (cells + mc) (slots + ms) Q (F0 m (pc + 3) ls (.long r :: rest))) : W p l e R s m args below meth c H locs cells slots Q (F0 m pc ls st0) := by
  intro T hT X
  rcases hr T hT X with ⟨v, st₀, t, T', L, h0, X', hL, e1, e2, ⟨⟨r, u, hv, hp, hb⟩, hF⟩, st⟩ | ⟨q, st₀, t, T', L, E, ce, h0, X', hL, e1, e2, ⟨u, hp, hb, hF⟩, hce, hcv, hcl, st⟩
  · cases hv
    obtain ⟨k1, k2, k3⟩ := vx_keep h0 e1 hS hA hf hL hF
    obtain ⟨t2, a1, b1⟩ := kk r u t T'.heap (locs ++ L) e1.symm (by rw [← e2]; exact X'.warmed.alike) hp hb k1 k2 k3 T' rfl X'
    exact ⟨t2, st t2 a1, b1⟩
  · obtain ⟨k1, k2, k3⟩ := vx_keep h0 e1 hS hAX hf hL hF
    obtain ⟨t2, a1, b1⟩ := kx E ce q u t T'.heap (locs ++ L) e1.symm (by rw [← e2]; exact X'.warmed.alike) hp hb k1 k2 k3 (by rw [e1]; exact hce) hcv hcl T' rfl X'
    exact ⟨t2, st.trans a1, b1⟩
theorem vx_callf {S SX : Type} {post : UInt32 → S → Prop} {px : SX → Prop} {B : S → State → Prop} {BX : String → SX → State → Prop} {AX : Nat → Prop} (hr : vx_Run p l e R s m args below meth c H locs cells slots mc ms (F0 m pc ls st0) rest (va_Qf post B A1 a) (vx_X px BX AX) free) (hS : va_S A0 H0 H locs) (hA : ∀ q, q < H.size → A1 q → A0 q) (hf : ∀ q, free q → A0 q) (hAX : ∀ q, q < H.size → AX q → A0 q)
    (kx : ∀ (E : String) (ce : Cell) (q9 : Addr) (u : SX) (t : State) (H1 : Heap) (locs1 : List Loc), t.heap = H1 → s.vm.Alike t.vm → px u → BX E u t → H.size ≤ H1.size → (∀ q : Nat, q < H.size → ¬ AX q → H1[q]? = H[q]?) → va_S A0 H0 H1 locs1 → H1[q9]? = some ce → ce.vm = .none → s.vm.findClass E = some ce.cls → vx_W p l e R s m args below meth c H1 locs1 (cells + mc) (slots + ms) Q (F0 m pc ls rest) q9)
    (kk : ∀ (r : UInt32) (u : S) (t : State) (H1 : Heap) (locs1 : List Loc), t.heap = H1 → s.vm.Alike t.vm → post r u → B u t → H.size ≤ H1.size → (∀ q : Nat, q < H.size → ¬ A1 q → H1[q]? = H[q]?) → va_S A0 H0 H1 locs1 → W p l e R s m args below meth c H1 locs1 (cells + mc) (slots + ms) Q (F0 m (pc + 3) ls (.float r :: rest))) : W p l e R s m args below meth c H locs cells slots Q (F0 m pc ls st0) := by
  intro T hT X
  rcases hr T hT X with ⟨v, st₀, t, T', L, h0, X', hL, e1, e2, ⟨⟨r, u, hv, hp, hb⟩, hF⟩, st⟩ | ⟨q, st₀, t, T', L, E, ce, h0, X', hL, e1, e2, ⟨u, hp, hb, hF⟩, hce, hcv, hcl, st⟩
  · cases hv
    obtain ⟨k1, k2, k3⟩ := vx_keep h0 e1 hS hA hf hL hF
    obtain ⟨t2, a1, b1⟩ := kk r u t T'.heap (locs ++ L) e1.symm (by rw [← e2]; exact X'.warmed.alike) hp hb k1 k2 k3 T' rfl X'
    exact ⟨t2, st t2 a1, b1⟩
  · obtain ⟨k1, k2, k3⟩ := vx_keep h0 e1 hS hAX hf hL hF
    obtain ⟨t2, a1, b1⟩ := kx E ce q u t T'.heap (locs ++ L) e1.symm (by rw [← e2]; exact X'.warmed.alike) hp hb k1 k2 k3 (by rw [e1]; exact hce) hcv hcl T' rfl X'
    exact ⟨t2, st.trans a1, b1⟩
theorem vx_calld {S SX : Type} {post : UInt64 → S → Prop} {px : SX → Prop} {B : S → State → Prop} {BX : String → SX → State → Prop} {AX : Nat → Prop} (hr : vx_Run p l e R s m args below meth c H locs cells slots mc ms (F0 m pc ls st0) rest (va_Qd post B A1 a) (vx_X px BX AX) free) (hS : va_S A0 H0 H locs) (hA : ∀ q, q < H.size → A1 q → A0 q) (hf : ∀ q, free q → A0 q) (hAX : ∀ q, q < H.size → AX q → A0 q)
    (kx : ∀ (E : String) (ce : Cell) (q9 : Addr) (u : SX) (t : State) (H1 : Heap) (locs1 : List Loc), t.heap = H1 → s.vm.Alike t.vm → px u → BX E u t → H.size ≤ H1.size → (∀ q : Nat, q < H.size → ¬ AX q → H1[q]? = H[q]?) → va_S A0 H0 H1 locs1 → H1[q9]? = some ce → ce.vm = .none → s.vm.findClass E = some ce.cls → vx_W p l e R s m args below meth c H1 locs1 (cells + mc) (slots + ms) Q (F0 m pc ls rest) q9)
    (kk : ∀ (r : UInt64) (u : S) (t : State) (H1 : Heap) (locs1 : List Loc), t.heap = H1 → s.vm.Alike t.vm → post r u → B u t → H.size ≤ H1.size → (∀ q : Nat, q < H.size → ¬ A1 q → H1[q]? = H[q]?) → va_S A0 H0 H1 locs1 → W p l e R s m args below meth c H1 locs1 (cells + mc) (slots + ms) Q (F0 m (pc + 3) ls (.double r :: rest))) : W p l e R s m args below meth c H locs cells slots Q (F0 m pc ls st0) := by
  intro T hT X
  rcases hr T hT X with ⟨v, st₀, t, T', L, h0, X', hL, e1, e2, ⟨⟨r, u, hv, hp, hb⟩, hF⟩, st⟩ | ⟨q, st₀, t, T', L, E, ce, h0, X', hL, e1, e2, ⟨u, hp, hb, hF⟩, hce, hcv, hcl, st⟩
  · cases hv
    obtain ⟨k1, k2, k3⟩ := vx_keep h0 e1 hS hA hf hL hF
    obtain ⟨t2, a1, b1⟩ := kk r u t T'.heap (locs ++ L) e1.symm (by rw [← e2]; exact X'.warmed.alike) hp hb k1 k2 k3 T' rfl X'
    exact ⟨t2, st t2 a1, b1⟩
  · obtain ⟨k1, k2, k3⟩ := vx_keep h0 e1 hS hAX hf hL hF
    obtain ⟨t2, a1, b1⟩ := kx E ce q u t T'.heap (locs ++ L) e1.symm (by rw [← e2]; exact X'.warmed.alike) hp hb k1 k2 k3 (by rw [e1]; exact hce) hcv hcl T' rfl X'
    exact ⟨t2, st.trans a1, b1⟩
theorem vx_callv {S SX : Type} {post : S → Prop} {px : SX → Prop} {B : S → State → Prop} {BX : String → SX → State → Prop} {AX : Nat → Prop} (hr : vx_Run p l e R s m args below meth c H locs cells slots mc ms (F0 m pc ls st0) rest (va_Qv post B A1 a) (vx_X px BX AX) free) (hS : va_S A0 H0 H locs) (hA : ∀ q, q < H.size → A1 q → A0 q) (hf : ∀ q, free q → A0 q) (hAX : ∀ q, q < H.size → AX q → A0 q)
    (kx : ∀ (E : String) (ce : Cell) (q9 : Addr) (u : SX) (t : State) (H1 : Heap) (locs1 : List Loc), t.heap = H1 → s.vm.Alike t.vm → px u → BX E u t → H.size ≤ H1.size → (∀ q : Nat, q < H.size → ¬ AX q → H1[q]? = H[q]?) → va_S A0 H0 H1 locs1 → H1[q9]? = some ce → ce.vm = .none → s.vm.findClass E = some ce.cls → vx_W p l e R s m args below meth c H1 locs1 (cells + mc) (slots + ms) Q (F0 m pc ls rest) q9)
    (kk : ∀ (u : S) (t : State) (H1 : Heap) (locs1 : List Loc), t.heap = H1 → s.vm.Alike t.vm → post u → B u t → H.size ≤ H1.size → (∀ q : Nat, q < H.size → ¬ A1 q → H1[q]? = H[q]?) → va_S A0 H0 H1 locs1 → W p l e R s m args below meth c H1 locs1 (cells + mc) (slots + ms) Q (F0 m (pc + 3) ls (rest))) : W p l e R s m args below meth c H locs cells slots Q (F0 m pc ls st0) := by
  intro T hT X
  rcases hr T hT X with ⟨v, st₀, t, T', L, h0, X', hL, e1, e2, ⟨⟨u, hv, hp, hb⟩, hF⟩, st⟩ | ⟨q, st₀, t, T', L, E, ce, h0, X', hL, e1, e2, ⟨u, hp, hb, hF⟩, hce, hcv, hcl, st⟩
  · cases hv
    obtain ⟨k1, k2, k3⟩ := vx_keep h0 e1 hS hA hf hL hF
    obtain ⟨t2, a1, b1⟩ := kk u t T'.heap (locs ++ L) e1.symm (by rw [← e2]; exact X'.warmed.alike) hp hb k1 k2 k3 T' rfl X'
    exact ⟨t2, st t2 a1, b1⟩
  · obtain ⟨k1, k2, k3⟩ := vx_keep h0 e1 hS hAX hf hL hF
    obtain ⟨t2, a1, b1⟩ := kx E ce q u t T'.heap (locs ++ L) e1.symm (by rw [← e2]; exact X'.warmed.alike) hp hb k1 k2 k3 (by rw [e1]; exact hce) hcv hcl T' rfl X'
    exact ⟨t2, st.trans a1, b1⟩
/-- caught by the row x of this method's table; the rows ahead don't take it -/
theorem vx_catch {own name : String} {E : String} {ce : Cell} {q : Addr} (hown : s.vm.findClass own = some m.cls) (pre : List ExceptionTableEntry) (x : ExceptionTableEntry) (suf : List ExceptionTableEntry) (hsplit : c.exceptionTable.toList = pre ++ x :: suf)
    (hpass : ∀ z ∈ pre, covers z pc = false ∨ (z.catchType ≠ 0 ∧ ∃ nm : String, (Cond.classLink own z.catchType nm).before args s = true ∧ va_Nc E nm s)) (hx : covers x pc = true) (h0 : x.catchType ≠ 0)
    (hlink : (Cond.classLink own x.catchType name).before args s = true) (hcast : (Cond.castable E name).before args s = true) (hcell : H[q]? = some ce) (hv : ce.vm = .none) (hcl : s.vm.findClass E = some ce.cls)
    (kk : W p l e R s m args below meth c H locs cells slots Q (F0 m x.handlerPc ls [.ref q])) : vx_W p l e R s m args below meth c H locs cells slots Q (F0 m pc ls rest) q := by
  intro T hT X
  have hpl : e.platform.magicAccessors = ({} : Platform).magicAccessors := by rw [X.admits.platform]
  obtain ⟨c3, c4, hc3, hc4, hasg⟩ := Cond.castable_spec hcast
  cases Option.some.inj (hc3.symm.trans hcl)
  obtain ⟨c5, hc5, hcl5⟩ := Cond.classLink_spec hown hlink e.platform hpl
  cases Option.some.inj (hc4.symm.trans hc5)
  obtain ⟨vm', X', st⟩ := X.thenCaughtThrough q (g := F0 m pc ls rest) rfl (Steps.refl _) (by rw [hT]; exact hcell) (by rw [hv]; rfl) (by obtain ⟨k9, h9, -⟩ := Vm.findClass_spec hcl; exact ⟨k9, h9⟩) pre x suf hsplit
    (fun z hz => by
      rcases hpass z hz with h | ⟨hz0, nm, hl1, hn1⟩
      · exact Or.inl h
      · obtain ⟨c6, hc6, hcl6⟩ := Cond.classLink_spec hown hl1 e.platform hpl
        obtain ⟨a8, b8, h1, h2, h3⟩ := hn1
        cases Option.some.inj (h1.symm.trans hcl)
        cases Option.some.inj (h2.symm.trans hc6)
        exact Or.inr ⟨hz0, _, hcl6, h3⟩) hx (Or.inr ⟨h0, c4, hcl5, hasg⟩)
  obtain ⟨t, a1, b1⟩ := kk (T.setVm vm') hT X'
  exact ⟨t, st.trans a1, b1⟩
end Rows
section Ends
variable {p : Program} {l : Launch} {e : Env} {R : Room} {s : State} {m : MethodId} {args : Array Value} {below : List Frame} {meth : Method} {c : Code} {H : Heap} {locs : List Loc} {cells slots : Nat} {Q : State → Prop}
variable {mc ms : Nat} {free : Addr → Prop} {A0 A1 : Nat → Prop} {H0 : Heap} {a : Array Value} {ls : Array Slot} {st0 rest : List Value}
variable {Qc : Array Value → State → Outcome → State → Prop} {XC : String → State → State → Prop}
/-- what a body that may throw owes at its end -/
def vx_MQ (below : List Frame) (Qc : Array Value → State → Outcome → State → Prop) (XC : String → State → State → Prop) (a : Array Value) (s : State) (mc ms : Nat) (free : Addr → Prop) : State → Prop := fun t =>
  ∃ o, t.status = .running ∧ Ended t below o ∧ vx_Q Qc XC mc ms free a s o t
theorem vx_ret {g : JFrame} {mc ms : Nat} (k : W p l e R s m args below meth c H locs cells slots (MQ below Qc args s mc ms free) g) : W p l e R s m args below meth c H locs cells slots (vx_MQ below Qc XC args s mc ms free) g := by
  intro T hT X
  obtain ⟨t, a1, o, b1, b2, b3, b4⟩ := k T hT X
  exact ⟨t, a1, o, b1, b2, Or.inl ⟨b3, b4⟩⟩
/-- not caught here: it goes on to the caller -/
theorem vx_widen {g : JFrame} {q : Addr} {k n : Nat} (h1 : cells ≤ k) (h2 : slots ≤ n) (kk : vx_W p l e R s m args below meth c H locs k n Q g q) : vx_W p l e R s m args below meth c H locs cells slots Q g q := fun T hT X => kk T hT (stand_widen X h1 h2)
theorem vx_out {pc : Nat} {E : String} {ce : Cell} {q : Addr} {mc ms : Nat} (hout : ∀ x ∈ c.exceptionTable.toList, covers x pc = false) (hlocks : meth.locks = false) (hcell : H[q]? = some ce) (hv : ce.vm = .none) (hcl : s.vm.findClass E = some ce.cls)
    (hx : ∀ t : State, t.heap = H → s.vm.Alike t.vm → XC E s t) (hf : ∀ z ∈ locs, free z.base) (hc : cells ≤ mc) (hs : slots ≤ ms) :
    vx_W p l e R s m args below meth c H locs cells slots (vx_MQ below Qc XC args s mc ms free) (F0 m pc ls rest) q := by
  intro T hT X
  obtain ⟨st1, hrun, hend, hW, hsm⟩ := X.leaveThrown q (g := F0 m pc ls rest) rfl rfl rfl hout hlocks
  have hcell9 : (T.setFrames (.throwing q :: below)).heap[q]? = some ce := by
    show T.heap[q]? = some ce
    rw [hT]; exact hcell
  exact ⟨_, st1, .threw q, hrun, hend, Or.inr ⟨q, rfl, E, ce, locs, hx _ hT hW.alike, hcell9, hv, hcl, hW, hsm.mono hc hs, hf⟩⟩
theorem vx_frame {U : State} {k n : Nat} (h : s.sameButNew ({ U with vm := s.vm } : State) locs k n) : s.heap.size ≤ U.heap.size ∧ ∀ q : Nat, q < s.heap.size → (∀ z ∈ locs, z.base ≠ q) → U.heap[q]? = s.heap[q]? := by
  obtain ⟨-, h2, -, -, -, h6⟩ := h
  refine ⟨h2, fun q hq hz => ?_⟩
  obtain ⟨c9, e1, e2, e3, e4⟩ := h6 q _ (Array.getElem?_eq_getElem hq)
  have hs : c9.slots = (s.heap[q]).slots := Array.ext_getElem? fun i => e4 i fun hm => hz _ hm rfl
  have h9 : c9 = s.heap[q] := by
    rw [hs] at e2
    exact e2
  have e5 : U.heap[q]? = some c9 := e1
  rw [e5, h9, Array.getElem?_eq_getElem hq]
/-- the words of a throw but the four that speak of the heap -/
def vx_no (w : Cond) : Bool := decide (w ≠ .isRef (.static Bundle.tN "UNASSIGNED_STACK" Bundle.steD)) && decide (w ≠ .isRef (.static Bundle.tN "SUPPRESSED_SENTINEL" Bundle.listD)) && decide (w ≠ .laysStatic Bundle.tN "UNASSIGNED_STACK" Bundle.steD) && decide (w ≠ .laysStatic Bundle.tN "SUPPRESSED_SENTINEL" Bundle.listD)
def vx_at0 (own : String) (ic : Nat) (X : String) (names : List String) : List Cond := (Bundle.ownAtoms0 own ic X names).filter vx_no
def vx_atS (own : String) (ic : Nat) (X : String) (names : List String) : List Cond := (Bundle.ownAtoms own ic X names).filter vx_no
/-- a word that the tables alone decide, or a good one -/
def vx_ot (w : Cond) : Bool := w.onTables || goodWord w
theorem vx_ot_at {args a' : Array Value} {s U : State} {w : Cond} (hW : s.WarmedH U.vm) (hvm : s.vm = U.vm) (hg : vx_ot w = true) (h : w.before args s = true) : w.before a' U = true := by
  simp only [vx_ot, Bool.or_eq_true] at hg
  rcases hg with hg | hg
  · exact va_tabs hg hvm h
  · exact word_at hW (good_of_word hg) h
/-- a list's words: the good ones out of the method's own list, the others by premises of their own -/
theorem vx_hat {args : Array Value} {s : State} {L B : List Cond} (h1 : ∀ w ∈ L.filter goodWord, w.before args s = true) (h2 : ∀ w ∈ L.filter (fun w => !goodWord w), w ∈ B) (h3 : ∀ w ∈ B, w.before args s = true) : ∀ w ∈ L, w.before args s = true := by
  intro w hw
  by_cases g : goodWord w = true
  · exact h1 w (List.mem_filter.mpr ⟨hw, g⟩)
  · refine h3 w (h2 w (List.mem_filter.mpr ⟨hw, ?_⟩))
    show (!goodWord w) = true
    cases hgw : goodWord w
    · rfl
    · exact absurd hgw g
theorem vx_c {args : Array Value} {s : State} {w : Cond} {B : List Cond} (h : w.before args s = true) (t : ∀ w ∈ B, w.before args s = true) : ∀ w' ∈ w :: B, w'.before args s = true := fun w' h' => (List.mem_cons.mp h').elim (fun e => by rw [e]; exact h) (t w')
theorem vx_n {args : Array Value} {s : State} : ∀ w ∈ ([] : List Cond), w.before args s = true := fun _ h => nomatch h
theorem vx_own {args : Array Value} {s : State} {L : List Cond} (h1 : ∀ w ∈ L.filter vx_no, w.before args s = true)
    (hU : (Cond.isRef (.static Bundle.tN "UNASSIGNED_STACK" Bundle.steD)).before args s = true) (hN : (Cond.isRef (.static Bundle.tN "SUPPRESSED_SENTINEL" Bundle.listD)).before args s = true)
    (lU : (Cond.laysStatic Bundle.tN "UNASSIGNED_STACK" Bundle.steD).before args s = true) (lN : (Cond.laysStatic Bundle.tN "SUPPRESSED_SENTINEL" Bundle.listD).before args s = true) : ∀ w ∈ L, w.before args s = true := by
  intro w hw
  by_cases e1 : w = .isRef (.static Bundle.tN "UNASSIGNED_STACK" Bundle.steD)
  · rw [e1]; exact hU
  · by_cases e2 : w = .isRef (.static Bundle.tN "SUPPRESSED_SENTINEL" Bundle.listD)
    · rw [e2]; exact hN
    · by_cases e3 : w = .laysStatic Bundle.tN "UNASSIGNED_STACK" Bundle.steD
      · rw [e3]; exact lU
      · by_cases e4 : w = .laysStatic Bundle.tN "SUPPRESSED_SENTINEL" Bundle.listD
        · rw [e4]; exact lN
        · exact h1 w (List.mem_filter.mpr ⟨hw, by unfold vx_no; rw [decide_eq_true e1, decide_eq_true e2, decide_eq_true e3, decide_eq_true e4]; rfl⟩)
/-- where a static field lies, its class's statics cell in H -/
def vx_L (C n d : String) (A : Nat → Prop) (U : State) (H : Heap) : Prop := ∃ (c : ClassId) (k : Class) (i : Nat) (f : Field) (a : Nat) (cell : Cell), U.vm.findClass C = some c ∧ U.fieldFound? C n d = some (c, k, i, f) ∧ f.isStatic = true ∧ k.statics = some a ∧ H[a]? = some cell ∧ cell.vm.isStatics = true ∧ cell.cls = c ∧ f.slot < cell.slots.size ∧ k.staticTypes[f.slot]? = some f.type ∧ ¬ A a
theorem vx_L.moved {C n d : String} {A : Nat → Prop} {u U : State} {H : Heap} (hvm : u.vm.Alike U.vm) (h : vx_L C n d A u H) : vx_L C n d A U H := by
  obtain ⟨c, k, i, f, a, cell, h1, h2, h3, h4, h5, h6, h7, h8, h9, h10⟩ := h
  obtain ⟨k', hi', he⟩ := State.fieldFound?_setVm hvm h2
  exact ⟨c, k', i, f, a, cell, by rw [hvm.findClass]; exact h1, hi', h3, by rw [he]; exact h4, h5, h6, h7, h8, by rw [he]; exact h9, h10⟩
theorem vx_L.kept {C n d : String} {A : Nat → Prop} {U : State} {H H1 : Heap} (h : vx_L C n d A U H) (hq : ∀ a : Nat, a < H.size → ¬ A a → H1[a]? = H[a]?) : vx_L C n d A U H1 := by
  obtain ⟨c, k, i, f, a, cell, h1, h2, h3, h4, h5, h6, h7, h8, h9, h10⟩ := h
  exact ⟨c, k, i, f, a, cell, h1, h2, h3, h4, by rw [hq a (Array.getElem?_eq_some_iff.mp h5).1 h10]; exact h5, h6, h7, h8, h9, h10⟩
theorem vx_L.narrow {C n d : String} {A B : Nat → Prop} {U : State} {H : Heap} (h : vx_L C n d A U H) (hAB : ∀ q, B q → A q) : vx_L C n d B U H := by
  obtain ⟨c, k, i, f, a, cell, h1, h2, h3, h4, h5, h6, h7, h8, h9, h10⟩ := h
  exact ⟨c, k, i, f, a, cell, h1, h2, h3, h4, h5, h6, h7, h8, h9, fun z => h10 (hAB _ z)⟩
theorem vx_L.word {C n d : String} {A : Nat → Prop} {s : State} {args : Array Value} (h : vx_L C n d A s s.heap) : (Cond.laysStatic C n d).before args s = true := by
  obtain ⟨c, k, i, f, a, cell, h1, h2, h3, h4, h5, h6, h7, h8, h9, -⟩ := h
  show (Cond.laysStatic C n d).holds args s none s [] = true
  exact Cond.laysStatic_of h1 h2 h3 h4 h5 h6 h7 h8 h9
/-- .. and what it holds: null or some reference -/
def vx_Zq (C n d : String) (A : Nat → Prop) (U : State) (H : Heap) : Prop := va_Zq C n d A U H ∧ vx_L C n d A U H
theorem vx_Zq.moved {C n d : String} {A : Nat → Prop} {u U : State} {H : Heap} (hvm : u.vm.Alike U.vm) (h : vx_Zq C n d A u H) : vx_Zq C n d A U H := ⟨va_Zq.moved hvm h.1, vx_L.moved hvm h.2⟩
theorem vx_Zq.kept {C n d : String} {A : Nat → Prop} {U : State} {H H1 : Heap} (h : vx_Zq C n d A U H) (hq : ∀ a : Nat, a < H.size → ¬ A a → H1[a]? = H[a]?) : vx_Zq C n d A U H1 := ⟨va_Zq.kept h.1 hq, vx_L.kept h.2 hq⟩
theorem vx_Zq.narrow {C n d : String} {A B : Nat → Prop} {U : State} {H : Heap} (h : vx_Zq C n d A U H) (hAB : ∀ q, B q → A q) : vx_Zq C n d B U H := ⟨va_Zq.narrow h.1 hAB, vx_L.narrow h.2 hAB⟩
theorem vx_Zqof {args : Array Value} {s : State} {C n d : String} {A : Nat → Prop} (hl : (Cond.laysStatic C n d).before args s = true) (hini : (Cond.initialized C).before args s = true) (h : (Cond.isRef (.static C n d)).before args s = true) (hA : ∀ a : Nat, a < s.heap.size → ¬ A a) : vx_Zq C n d A s s.heap := by
  refine ⟨va_Zqof hl hini h hA, ?_⟩
  obtain ⟨c, k, i, f, a, cell, h1, h2, h3, h4, h5, h6, h7, h8, h9⟩ := Cond.laysStatic_spec hl
  exact ⟨c, k, i, f, a, cell, h1, h2, h3, h4, h5, h6, h7, h8, h9, hA a (Array.getElem?_eq_some_iff.mp h5).1⟩
theorem vx_isRef {C n d : String} {v : Value} {A : Nat → Prop} {s : State} {args : Array Value} (h : va_Z C n d v A s s.heap) (hv : v.isRef = true) : (Cond.isRef (.static C n d)).before args s = true := by
  obtain ⟨cf, kf, fi, f, a, cell, h1, h2, h3, h4, h5, h6, h7, -⟩ := h
  have he : (Term.static C n d).eval args s none [] s = some v := by
    simp [Term.eval, State.fieldNamed?, h1, h2, h4, h5, h6, h7]
  simp only [Cond.before, Cond.holds, Cond.value, he]
  cases v <;> simp_all [Value.isRef]
theorem vx_isRefq {C n d : String} {A : Nat → Prop} {s : State} {args : Array Value} (h : va_Zq C n d A s s.heap) : (Cond.isRef (.static C n d)).before args s = true := by
  rcases h with h | ⟨t, h⟩
  · exact vx_isRef h rfl
  · exact vx_isRef h rfl
/-- the same frame, seen from here: as if the method were called anew in this heap -/
theorem vx_rebase {T : State} (X : Stand p l e R s m args below meth c T locs cells slots) {R' : Room} (hf : R'.frames ≤ R.frames) (hl : R'.locals ≤ R.locals) (hc : cells + R'.cells ≤ R.cells) (hs : slots + R'.slots ≤ R.slots) :
    Stand p l e R' ((T.setVm s.vm).setFrames (.invoking m args :: below)) m args below meth c T [] 0 0 := by
  have htop : (T.setVm s.vm).topJava?.isSome := X.here.top
  have hF : ((T.setVm s.vm).setFrames (.invoking m args :: below)).frames = .invoking m args :: below := State.frames_setFrames _ (State.cur_lt_of_top htop)
  obtain ⟨g₀, hg0⟩ := Option.isSome_iff_exists.mp htop
  obtain ⟨r, hr⟩ := State.topJava?_eq_some.mp hg0
  have hl9 : e.platform.stackLimits (T.setVm s.vm).me = e.platform.stackLimits s.me := X.limits
  have hb9 : (T.setVm s.vm).me.stackBytes = s.me.stackBytes := X.bytes
  refine ⟨X.admits, X.cas, X.clock, hF, ?_, X.hears, X.method, X.code, X.here, X.tail, X.warmed, ?_, ?_, ?_⟩
  · have h := X.room
    have hU : ((T.setVm s.vm).setFrames (.invoking m args :: below)).localsInUse = s.localsInUse := by
      rw [State.localsInUse_invoking hF (meth := meth) (c := c) X.method X.code, State.localsInUse_invoking X.frames X.method X.code]
    simp only [State.hasRoom, Bool.and_eq_true, decide_eq_true_eq] at h ⊢
    obtain ⟨⟨⟨⟨h1, h2, h3, h4, h5, h6⟩, h7⟩, h8⟩, h9⟩ := h
    rw [X.frames, List.length_cons] at h2 h3
    have q1 := X.heapSize
    have q2 := X.used
    simp only [hF, hU, List.length_cons, State.stackLimits_setFrames, State.stackBytes_setFrames, hl9, hb9]
    refine ⟨⟨⟨⟨by omega, by omega, by omega, by omega, by omega, h6⟩, ?_⟩, ?_⟩, X.book⟩
    · show T.heap.size + R'.cells ≤ e.platform.maxCells
      omega
    · show T.slotsUsed + R'.slots ≤ e.platform.maxSlots
      omega
  · rw [State.stackLimits_setFrames]; rfl
  · rw [State.stackBytes_setFrames]; rfl
  · refine ⟨?_, Nat.le_refl _, Nat.le_refl _, ?_, ?_, fun a c9 h9 => ⟨c9, h9, rfl, rfl, fun _ _ => rfl⟩⟩
    · obtain ⟨t, ht, -⟩ := State.frames_cons hr
      show T.setVm s.vm = { ((T.setVm s.vm).setFrames (.invoking m args :: below)).setFrames (T.setVm s.vm).frames with heap := T.heap, slotsUsed := T.slotsUsed }
      rw [State.setFrames_setFrames, State.setFrames_self ht]
      rfl
    · show T.slotsUsed = T.slotsUsed + ((T.heap.toList.drop T.heap.size).map (·.slots.size)).sum
      rw [List.drop_eq_nil_of_le (Nat.le_of_eq Array.length_toList)]
      rfl
    · show ((T.heap.toList.drop T.heap.size).map (·.slots.size)).sum ≤ 0
      rw [List.drop_eq_nil_of_le (Nat.le_of_eq Array.length_toList)]
      exact Nat.le_refl _
/-- 'throw new E()': new; dup; invokespecial; athrow -/
theorem vx_throw0 {cc : ByteArray} {pc : Nat} (hexec : p.tables.exec = Jvm.exec) (hb : c.code = cc) (hl : l.stackTraces = false) {own cls : String} {names : List String} {ik ic mc ms : Nat} {A : Nat → Prop}
    (hown : s.vm.findClass own = some m.cls) (hcls : Bundle.fit cls = true) (hnames : ∀ n ∈ names, Bundle.fit n = true)
    (hk : (Cond.classLink own ik cls).before args s = true) (hini : (Cond.initialized cls).before args s = true) (hat : ∀ w ∈ vx_at0 own ic cls names, w.before args s = true)
    (hgood : ∀ w ∈ Cond.classLink own ik cls :: Cond.initialized cls :: vx_at0 own ic cls names, vx_ot w = true)
    (hU : vx_Zq Bundle.tN "UNASSIGNED_STACK" Bundle.steD A s s.heap) (hN : vx_Zq Bundle.tN "SUPPRESSED_SENTINEL" Bundle.listD A s s.heap) (hS : va_S A s.heap H locs) (hsize : ls.size = c.maxLocals)
    (d0 : decode cc pc = .ok (.new ik, 3)) (d3 : decode cc (pc + 3) = .ok (.dup, 1)) (d4 : decode cc (pc + 4) = .ok (.invokespecial ic, 3)) (d7 : decode cc (pc + 7) = .ok (.athrow, 1))
    (hout : ∀ x ∈ c.exceptionTable.toList, covers x (pc + 7) = false)
    (hRframes : names.length + 3 < R.frames) (hRlocals : (rest.map fun v => v.category).sum + (13 * (names.length + 1) + 42) ≤ R.locals) (hRcells : cells + 1 ≤ R.cells) (hRslots : slots + 6 ≤ R.slots) (hlocks : meth.locks = false)
    (hx : ∀ t : State, s.vm.Alike t.vm → H.size ≤ t.heap.size → (∀ q : Nat, q < H.size → t.heap[q]? = H[q]?) → XC cls s t)
    (hf : ∀ z ∈ locs, free z.base) (hc : cells + 1 ≤ mc) (hs : slots + 6 ≤ ms) :
    W p l e R s m args below meth c H locs cells slots (vx_MQ below Qc XC args s mc ms free) (F0 m pc ls rest) := by
  intro T hT X
  have htr : e.platform.stackTraces = false := (show e.platform.stackTraces = l.stackTraces by rw [X.admits.platform]).trans hl
  have Y := vx_rebase X (R' := { frames := R.frames, locals := R.locals, cells := 1, slots := 6 }) (Nat.le_refl _) (Nat.le_refl _) hRcells hRslots
  obtain ⟨s', hA⟩ : ∃ z, z = (T.setVm s.vm).setFrames (.invoking m args :: below) := ⟨_, rfl⟩
  rw [← hA] at Y
  have hvm : s'.vm = s.vm := by rw [hA]; rfl
  have hhp : s'.heap = H := by rw [hA]; exact hT
  have hW0 : s.WarmedH s'.vm := by rw [hvm]; exact State.WarmedH.refl s
  have hat' : ∀ w ∈ vx_at0 own ic cls names, w.before args s' = true := fun w hw => vx_ot_at hW0 hvm.symm (hgood w (List.mem_cons_of_mem _ (List.mem_cons_of_mem _ hw))) (hat w hw)
  have hk' : (Cond.classLink own ik cls).before args s' = true := vx_ot_at hW0 hvm.symm (hgood _ List.mem_cons_self) hk
  have hini' : (Cond.initialized cls).before args s' = true := vx_ot_at hW0 hvm.symm (hgood _ (List.mem_cons_of_mem _ List.mem_cons_self)) hini
  have hU' : vx_Zq Bundle.tN "UNASSIGNED_STACK" Bundle.steD A s' s'.heap := by rw [hhp]; exact vx_Zq.moved hW0.alike (hU.kept hS.2.1)
  have hN' : vx_Zq Bundle.tN "SUPPRESSED_SENTINEL" Bundle.listD A s' s'.heap := by rw [hhp]; exact vx_Zq.moved hW0.alike (hN.kept hS.2.1)
  have h : ∀ w ∈ Bundle.ownAtoms0 own ic cls names, w.before args s' = true := vx_own hat' (vx_isRefq hU'.1) (vx_isRefq hN'.1) hU'.2.word hN'.2.word
  have hown' : s'.vm.findClass own = some m.cls := by rw [hvm]; exact hown
  have hins : (Cond.instantiable cls 6).before args s' = true := h _ (by simp [Bundle.ownAtoms0])
  obtain ⟨vm₁, cX, kX, hfX, hkX, -, -, X₁, st1⟩ := Y.newCold hexec (own := own) (C := cls) (index := ik) (n := 6) hown' hk' hins hini'
    (g := F0 m pc ls rest) rfl (by rw [hb]; exact d0) (Nat.le_refl _) (Nat.le_refl _)
  generalize hT1 : (T.setVm vm₁).pushCell { cls := cX, slots := kX.instanceTypes.map defaultValue, vm := .none } = T1 at X₁ st1
  have hcat : (Value.ref T.heap.size).category = 1 := rfl
  have hcellA : T1.heap[T.heap.size]? = some (freshCell cX kX) := by rw [← hT1]; exact State.heap_pushCell_size _ _
  have d3' : decode c.code (pc + 3) = .ok (.dup, 1) := by rw [hb]; exact d3
  obtain ⟨U, hsteps, hrun, hend, hW, hsame, ce, hce, hO⟩ := X₁.ctorThrow0 hexec htr (own := own) (cls := cls) (names := names) (ic := ic) hown' hcls hnames h (fun x hx => nomatch hx) hfX hkX hcellA (by rw [hhp, hT]; exact Nat.le_refl _)
    (g := { method := m, pc := pc + 4, locals := ls, stack := .ref T.heap.size :: .ref T.heap.size :: rest, locked := none }) rfl hsize rfl rfl (rest := rest) rfl
    (by rw [hb]; exact d4) (by rw [hb]; exact d7) hout hRframes (by simp only [List.map_cons, List.sum_cons, hcat]; omega) hlocks
  obtain ⟨f1, f2⟩ := vx_frame hsame
  rw [hhp] at f1 f2
  have hWs : s.WarmedH U.vm := State.WarmedH.trans hW0 hW
  have hcl : s.vm.findClass cls = some ce.cls := by
    have h9 := hO.cls
    rw [hvm] at h9
    exact h9
  have hall : s.sameButNew ({ U with vm := s.vm } : State) locs mc ms := by
    subst hA
    obtain ⟨e1, e2⟩ := hsame
    rw [State.setFrames_setFrames] at e1
    have h2 : (T.setVm s.vm).sameButNew ({ U with vm := s.vm } : State) [] (0 + 1) (0 + 6) := ⟨e1, e2⟩
    have h3 := X.same.trans h2
    rw [List.append_nil] at h3
    exact h3.mono hc hs
  refine ⟨U, ?_, .threw T.heap.size, hrun, hend, Or.inr ⟨T.heap.size, rfl, cls, ce, locs, hx U hWs.alike f1 (fun q hq => f2 q hq (fun z hz => nomatch hz)), hce, hO.vm, hcl, hWs, hall, hf⟩⟩
  refine st1 _ ?_
  show Steps p.tables e below (T1.setTop { method := m, pc := pc + 3, locals := ls, stack := .ref T.heap.size :: rest, locked := none }) _
  jvm_step X₁.here [X₁.here.top, hexec, d3', Value.category]
  exact hsteps
/-- 'throw new E("text")': new; dup; ldc; invokespecial; athrow -/
theorem vx_throwS {cc : ByteArray} {pc : Nat} (hexec : p.tables.exec = Jvm.exec) (hb : c.code = cc) (hl : l.stackTraces = false) {own cls text : String} {names : List String} {ik is ic mc ms sa : Nat} {A : Nat → Prop}
    (hown : s.vm.findClass own = some m.cls) (hcls : Bundle.fit cls = true) (hnames : ∀ n ∈ names, Bundle.fit n = true)
    (hk : (Cond.classLink own ik cls).before args s = true) (hini : (Cond.initialized cls).before args s = true) (hstr : vk_R own is text sa s) (hat : ∀ w ∈ vx_atS own ic cls names, w.before args s = true)
    (hgood : ∀ w ∈ Cond.classLink own ik cls :: Cond.initialized cls :: vx_atS own ic cls names, vx_ot w = true)
    (hU : vx_Zq Bundle.tN "UNASSIGNED_STACK" Bundle.steD A s s.heap) (hN : vx_Zq Bundle.tN "SUPPRESSED_SENTINEL" Bundle.listD A s s.heap) (hS : va_S A s.heap H locs) (hsize : ls.size = c.maxLocals)
    (d0 : decode cc pc = .ok (.new ik, 3)) (d3 : decode cc (pc + 3) = .ok (.dup, 1)) (d4 : decode cc (pc + 4) = .ok (.ldc is, 2)) (d6 : decode cc (pc + 6) = .ok (.invokespecial ic, 3)) (d9 : decode cc (pc + 9) = .ok (.athrow, 1))
    (hout : ∀ x ∈ c.exceptionTable.toList, covers x (pc + 9) = false)
    (hRframes : names.length + 3 < R.frames) (hRlocals : (rest.map fun v => v.category).sum + (13 * (names.length + 1) + 43) ≤ R.locals) (hRcells : cells + 1 ≤ R.cells) (hRslots : slots + 6 ≤ R.slots) (hlocks : meth.locks = false)
    (hx : ∀ t : State, s.vm.Alike t.vm → H.size ≤ t.heap.size → (∀ q : Nat, q < H.size → t.heap[q]? = H[q]?) → XC cls s t)
    (hf : ∀ z ∈ locs, free z.base) (hc : cells + 1 ≤ mc) (hs : slots + 6 ≤ ms) :
    W p l e R s m args below meth c H locs cells slots (vx_MQ below Qc XC args s mc ms free) (F0 m pc ls rest) := by
  intro T hT X
  have htr : e.platform.stackTraces = false := (show e.platform.stackTraces = l.stackTraces by rw [X.admits.platform]).trans hl
  have Y := vx_rebase X (R' := { frames := R.frames, locals := R.locals, cells := 1, slots := 6 }) (Nat.le_refl _) (Nat.le_refl _) hRcells hRslots
  obtain ⟨s', hA⟩ : ∃ z, z = (T.setVm s.vm).setFrames (.invoking m args :: below) := ⟨_, rfl⟩
  rw [← hA] at Y
  have hvm : s'.vm = s.vm := by rw [hA]; rfl
  have hhp : s'.heap = H := by rw [hA]; exact hT
  have hW0 : s.WarmedH s'.vm := by rw [hvm]; exact State.WarmedH.refl s
  have hat' : ∀ w ∈ vx_atS own ic cls names, w.before args s' = true := fun w hw => vx_ot_at hW0 hvm.symm (hgood w (List.mem_cons_of_mem _ (List.mem_cons_of_mem _ hw))) (hat w hw)
  have hk' : (Cond.classLink own ik cls).before args s' = true := vx_ot_at hW0 hvm.symm (hgood _ List.mem_cons_self) hk
  have hini' : (Cond.initialized cls).before args s' = true := vx_ot_at hW0 hvm.symm (hgood _ (List.mem_cons_of_mem _ List.mem_cons_self)) hini
  have hU' : vx_Zq Bundle.tN "UNASSIGNED_STACK" Bundle.steD A s' s'.heap := by rw [hhp]; exact vx_Zq.moved hW0.alike (hU.kept hS.2.1)
  have hN' : vx_Zq Bundle.tN "SUPPRESSED_SENTINEL" Bundle.listD A s' s'.heap := by rw [hhp]; exact vx_Zq.moved hW0.alike (hN.kept hS.2.1)
  have h : ∀ w ∈ Bundle.ownAtoms own ic cls names, w.before args s' = true := vx_own hat' (vx_isRefq hU'.1) (vx_isRefq hN'.1) hU'.2.word hN'.2.word
  have hown' : s'.vm.findClass own = some m.cls := by rw [hvm]; exact hown
  have hins : (Cond.instantiable cls 6).before args s' = true := h _ (by simp [Bundle.ownAtoms])
  obtain ⟨vm₁, cX, kX, hfX, hkX, -, -, X₁, st1⟩ := Y.newCold hexec (own := own) (C := cls) (index := ik) (n := 6) hown' hk' hins hini'
    (g := F0 m pc ls rest) rfl (by rw [hb]; exact d0) (Nat.le_refl _) (Nat.le_refl _)
  generalize hT1 : (T.setVm vm₁).pushCell { cls := cX, slots := kX.instanceTypes.map defaultValue, vm := .none } = T1 at X₁ st1
  have hcat : (Value.ref T.heap.size).category = 1 := rfl
  have hcellA : T1.heap[T.heap.size]? = some (freshCell cX kX) := by rw [← hT1]; exact State.heap_pushCell_size _ _
  have d3' : decode c.code (pc + 3) = .ok (.dup, 1) := by rw [hb]; exact d3
  have d4' : decode c.code (pc + 4) = .ok (.ldc is, 2) := by rw [hb]; exact d4
  have hstr' : vk_R own is text sa s' := vk_R.warm hW0 hstr
  obtain ⟨U, hsteps, hrun, hend, hW, hsame, ce, hce, hO⟩ := X₁.ctorThrowS hexec htr (own := own) (cls := cls) (names := names) (ic := ic) hown' hcls hnames h (fun x hx => nomatch hx) hfX hkX hcellA (by rw [hhp, hT]; exact Nat.le_refl _) (msg := .ref sa) rfl
    (g := { method := m, pc := pc + 6, locals := ls, stack := .ref sa :: .ref T.heap.size :: .ref T.heap.size :: rest, locked := none }) rfl hsize rfl rfl (rest := rest) rfl
    (by rw [hb]; exact d6) (by rw [hb]; exact d9) hout hRframes (by simp only [List.map_cons, List.sum_cons, hcat]; omega) hlocks
  obtain ⟨f1, f2⟩ := vx_frame hsame
  rw [hhp] at f1 f2
  have hWs : s.WarmedH U.vm := State.WarmedH.trans hW0 hW
  have hcl : s.vm.findClass cls = some ce.cls := by
    have h9 := hO.cls
    rw [hvm] at h9
    exact h9
  have hall : s.sameButNew ({ U with vm := s.vm } : State) locs mc ms := by
    subst hA
    obtain ⟨e1, e2⟩ := hsame
    rw [State.setFrames_setFrames] at e1
    have h2 : (T.setVm s.vm).sameButNew ({ U with vm := s.vm } : State) [] (0 + 1) (0 + 6) := ⟨e1, e2⟩
    have h3 := X.same.trans h2
    rw [List.append_nil] at h3
    exact h3.mono hc hs
  refine ⟨U, ?_, .threw T.heap.size, hrun, hend, Or.inr ⟨T.heap.size, rfl, cls, ce, locs, hx U hWs.alike f1 (fun q hq => f2 q hq (fun z hz => nomatch hz)), hce, hO.vm, hcl, hWs, hall, hf⟩⟩
  refine st1 _ ?_
  show Steps p.tables e below (T1.setTop { method := m, pc := pc + 3, locals := ls, stack := .ref T.heap.size :: rest, locked := none }) _
  jvm_step X₁.here [X₁.here.top, hexec, d3', Value.category]
  exact X₁.ldcString hexec (own := own) (text := text) (index := is) (a := sa) hown' hstr'.1 hstr'.2
    (g := { method := m, pc := pc + 4, locals := ls, stack := .ref T.heap.size :: .ref T.heap.size :: rest, locked := none }) rfl d4' _ hsteps
/-- 'throw new E("text")', the text by a wide index -/
theorem vx_throwSW {cc : ByteArray} {pc : Nat} (hexec : p.tables.exec = Jvm.exec) (hb : c.code = cc) (hl : l.stackTraces = false) {own cls text : String} {names : List String} {ik is ic mc ms sa : Nat} {A : Nat → Prop}
    (hown : s.vm.findClass own = some m.cls) (hcls : Bundle.fit cls = true) (hnames : ∀ n ∈ names, Bundle.fit n = true)
    (hk : (Cond.classLink own ik cls).before args s = true) (hini : (Cond.initialized cls).before args s = true) (hstr : vk_R own is text sa s) (hat : ∀ w ∈ vx_atS own ic cls names, w.before args s = true)
    (hgood : ∀ w ∈ Cond.classLink own ik cls :: Cond.initialized cls :: vx_atS own ic cls names, vx_ot w = true)
    (hU : vx_Zq Bundle.tN "UNASSIGNED_STACK" Bundle.steD A s s.heap) (hN : vx_Zq Bundle.tN "SUPPRESSED_SENTINEL" Bundle.listD A s s.heap) (hS : va_S A s.heap H locs) (hsize : ls.size = c.maxLocals)
    (d0 : decode cc pc = .ok (.new ik, 3)) (d3 : decode cc (pc + 3) = .ok (.dup, 1)) (d4 : decode cc (pc + 4) = .ok (.ldc_w is, 3)) (d7 : decode cc (pc + 7) = .ok (.invokespecial ic, 3)) (d10 : decode cc (pc + 10) = .ok (.athrow, 1))
    (hout : ∀ x ∈ c.exceptionTable.toList, covers x (pc + 10) = false)
    (hRframes : names.length + 3 < R.frames) (hRlocals : (rest.map fun v => v.category).sum + (13 * (names.length + 1) + 43) ≤ R.locals) (hRcells : cells + 1 ≤ R.cells) (hRslots : slots + 6 ≤ R.slots) (hlocks : meth.locks = false)
    (hx : ∀ t : State, s.vm.Alike t.vm → H.size ≤ t.heap.size → (∀ q : Nat, q < H.size → t.heap[q]? = H[q]?) → XC cls s t)
    (hf : ∀ z ∈ locs, free z.base) (hc : cells + 1 ≤ mc) (hs : slots + 6 ≤ ms) :
    W p l e R s m args below meth c H locs cells slots (vx_MQ below Qc XC args s mc ms free) (F0 m pc ls rest) := by
  intro T hT X
  have htr : e.platform.stackTraces = false := (show e.platform.stackTraces = l.stackTraces by rw [X.admits.platform]).trans hl
  have Y := vx_rebase X (R' := { frames := R.frames, locals := R.locals, cells := 1, slots := 6 }) (Nat.le_refl _) (Nat.le_refl _) hRcells hRslots
  obtain ⟨s', hA⟩ : ∃ z, z = (T.setVm s.vm).setFrames (.invoking m args :: below) := ⟨_, rfl⟩
  rw [← hA] at Y
  have hvm : s'.vm = s.vm := by rw [hA]; rfl
  have hhp : s'.heap = H := by rw [hA]; exact hT
  have hW0 : s.WarmedH s'.vm := by rw [hvm]; exact State.WarmedH.refl s
  have hat' : ∀ w ∈ vx_atS own ic cls names, w.before args s' = true := fun w hw => vx_ot_at hW0 hvm.symm (hgood w (List.mem_cons_of_mem _ (List.mem_cons_of_mem _ hw))) (hat w hw)
  have hk' : (Cond.classLink own ik cls).before args s' = true := vx_ot_at hW0 hvm.symm (hgood _ List.mem_cons_self) hk
  have hini' : (Cond.initialized cls).before args s' = true := vx_ot_at hW0 hvm.symm (hgood _ (List.mem_cons_of_mem _ List.mem_cons_self)) hini
  have hU' : vx_Zq Bundle.tN "UNASSIGNED_STACK" Bundle.steD A s' s'.heap := by rw [hhp]; exact vx_Zq.moved hW0.alike (hU.kept hS.2.1)
  have hN' : vx_Zq Bundle.tN "SUPPRESSED_SENTINEL" Bundle.listD A s' s'.heap := by rw [hhp]; exact vx_Zq.moved hW0.alike (hN.kept hS.2.1)
  have h : ∀ w ∈ Bundle.ownAtoms own ic cls names, w.before args s' = true := vx_own hat' (vx_isRefq hU'.1) (vx_isRefq hN'.1) hU'.2.word hN'.2.word
  have hown' : s'.vm.findClass own = some m.cls := by rw [hvm]; exact hown
  have hins : (Cond.instantiable cls 6).before args s' = true := h _ (by simp [Bundle.ownAtoms])
  obtain ⟨vm₁, cX, kX, hfX, hkX, -, -, X₁, st1⟩ := Y.newCold hexec (own := own) (C := cls) (index := ik) (n := 6) hown' hk' hins hini'
    (g := F0 m pc ls rest) rfl (by rw [hb]; exact d0) (Nat.le_refl _) (Nat.le_refl _)
  generalize hT1 : (T.setVm vm₁).pushCell { cls := cX, slots := kX.instanceTypes.map defaultValue, vm := .none } = T1 at X₁ st1
  have hcat : (Value.ref T.heap.size).category = 1 := rfl
  have hcellA : T1.heap[T.heap.size]? = some (freshCell cX kX) := by rw [← hT1]; exact State.heap_pushCell_size _ _
  have d3' : decode c.code (pc + 3) = .ok (.dup, 1) := by rw [hb]; exact d3
  have d4' : decode c.code (pc + 4) = .ok (.ldc_w is, 3) := by rw [hb]; exact d4
  have hstr' : vk_R own is text sa s' := vk_R.warm hW0 hstr
  obtain ⟨U, hsteps, hrun, hend, hW, hsame, ce, hce, hO⟩ := X₁.ctorThrowS hexec htr (own := own) (cls := cls) (names := names) (ic := ic) hown' hcls hnames h (fun x hx => nomatch hx) hfX hkX hcellA (by rw [hhp, hT]; exact Nat.le_refl _) (msg := .ref sa) rfl
    (g := { method := m, pc := pc + 7, locals := ls, stack := .ref sa :: .ref T.heap.size :: .ref T.heap.size :: rest, locked := none }) rfl hsize rfl rfl (rest := rest) rfl
    (by rw [hb]; exact d7) (by rw [hb]; exact d10) hout hRframes (by simp only [List.map_cons, List.sum_cons, hcat]; omega) hlocks
  obtain ⟨f1, f2⟩ := vx_frame hsame
  rw [hhp] at f1 f2
  have hWs : s.WarmedH U.vm := State.WarmedH.trans hW0 hW
  have hcl : s.vm.findClass cls = some ce.cls := by
    have h9 := hO.cls
    rw [hvm] at h9
    exact h9
  have hall : s.sameButNew ({ U with vm := s.vm } : State) locs mc ms := by
    subst hA
    obtain ⟨e1, e2⟩ := hsame
    rw [State.setFrames_setFrames] at e1
    have h2 : (T.setVm s.vm).sameButNew ({ U with vm := s.vm } : State) [] (0 + 1) (0 + 6) := ⟨e1, e2⟩
    have h3 := X.same.trans h2
    rw [List.append_nil] at h3
    exact h3.mono hc hs
  refine ⟨U, ?_, .threw T.heap.size, hrun, hend, Or.inr ⟨T.heap.size, rfl, cls, ce, locs, hx U hWs.alike f1 (fun q hq => f2 q hq (fun z hz => nomatch hz)), hce, hO.vm, hcl, hWs, hall, hf⟩⟩
  refine st1 _ ?_
  show Steps p.tables e below (T1.setTop { method := m, pc := pc + 3, locals := ls, stack := .ref T.heap.size :: rest, locked := none }) _
  jvm_step X₁.here [X₁.here.top, hexec, d3', Value.category]
  exact X₁.ldcStringW hexec (own := own) (text := text) (index := is) (a := sa) hown' hstr'.1 hstr'.2
    (g := { method := m, pc := pc + 4, locals := ls, stack := .ref T.heap.size :: .ref T.heap.size :: rest, locked := none }) rfl d4' _ hsteps
end Ends
section Bodies
variable {l : Launch}
theorem vx_ofW {y : MethodName} {ws ws' : List Cond} {rm : Room} {Pc : Array Value → State → Prop} {Qc : Array Value → State → Outcome → State → Prop} {XC : String → State → State → Prop} {mc ms : Nat} {free : Addr → Prop} {cc : ByteArray} {maxL : Nat} {ret : Option FieldType}
    (hy : plainName y.cls = true) (hw : ws = Cond.code y cc maxL ret :: ws')
    (body : ∀ p e s m args below meth c s₁, BodyLoose p l y (headSpec ws rm) cc maxL ret e s m args below meth c s₁ → c.maxLocals = maxL → (∀ x ∈ c.exceptionTable.toList, False) → Pc args s →
      W p l e (headSpec ws rm).room s m args below meth c s.heap [] 0 0 (vx_MQ below Qc XC args s mc ms free) (entryFrame m args maxL)) : vx_Met l y ws rm Pc Qc XC mc ms free := by
  refine MetFree.of_bodyS (code := cc) (maxLocals := maxL) (ret := ret) hy ?_ ?_
  · intro args s m h hn
    obtain ⟨meth, c, h1, h2, h3, h4, h5, h6, -, -⟩ := Cond.code_spec hn (atoms_spec (ws := ws) h _ (by rw [hw]; exact List.mem_cons_self))
    exact ⟨meth, c, h1, h2, h3, h4, h5, h6⟩
  · intro p e s m args below meth c s₁ B hml hP _
    have hh0 : s₁.heap = s.heap := by rw [B.state]; rfl
    have ht : ∀ x ∈ c.exceptionTable.toList, False := by
      obtain ⟨meth9, c9, h1, h2, -, -, -, -, h7, -⟩ := Cond.code_spec B.named (atoms_spec (ws := ws) B.pre _ (by rw [hw]; exact List.mem_cons_self))
      cases Option.some.inj (h1.symm.trans B.method)
      cases Option.some.inj (h2.symm.trans (Stand.of_body B).code)
      intro x hx
      rw [Array.isEmpty_iff.mp h7] at hx
      cases hx
    obtain ⟨t, a1, o, b1, b2, b3⟩ := body p e s m args below meth c s₁ B hml ht hP s₁ hh0 (Stand.of_body B)
    exact ⟨t, o, a1, b1, b2, b3⟩
/-- the table of a body with handlers -/
theorem vx_table {p : Program} {x y : MethodName} {S : Spec} {cc bytes : ByteArray} {maxL maxL' : Nat} {ret ret' : Option FieldType} {e : Env} {s s₁ : State} {m : MethodId} {args : Array Value} {below : List Frame} {meth : Method} {c : Code} {hh : List (Nat × Nat × Nat × Nat)}
    (B : BodyLoose p l y S cc maxL ret e s m args below meth c s₁) (h : (Cond.codeWith y bytes maxL' ret' hh).before args s = true) : c.exceptionTable.toList = tableOf hh := by
  obtain ⟨m9, meth9, c9, hn9, h1, h2, -, -, h6, -⟩ := Cond.codeWith_spec h
  cases Option.some.inj (hn9.symm.trans B.named)
  cases Option.some.inj (h1.symm.trans B.method)
  cases Option.some.inj (h2.symm.trans (Stand.of_body B).code)
  rw [← h6, table_eq]
end Bodies
end VXA
/-! ===== END ===== -/
/-! ===== BEGIN a static call of a method with an exception table ===== -/
section VXS
variable {p : Program} {l : Launch} {e : Env} {R : Room} {s : State} {m : MethodId} {args : Array Value} {below : List Frame} {meth : Method} {c : Code} {T : State} {H : Heap} {locs : List Loc} {cells slots : Nat}
abbrev vx_CSW (R : Room) (s : State) (args : Array Value) (own : String) (index : Nat) (y : MethodName) (bytes : ByteArray) (maxL : Nat) (ret : Option FieldType) (hh : List (Nat × Nat × Nat × Nat)) (ws : List Cond) (rm : Room) (mc ms n : Nat) : Prop :=
  (rm.cells = mc ∧ rm.slots = ms ∧ rm.frames + 1 ≤ R.frames ∧ 8 + (maxL + 11) + rm.locals ≤ R.locals ∧ (∀ w ∈ ws, ∀ (a' : Array Value) (U : State), s.WarmedH U.vm → w.before a' U = true) ∧ Cond.codeWith y bytes maxL ret hh ∈ ws) ∧
  (Cond.codeWith y bytes maxL ret hh).before args s = true ∧ (Cond.initialized y.cls).before args s = true ∧ (y.cls ≠ "java/lang/invoke/MethodHandle" ∧ y.cls ≠ "java/lang/invoke/VarHandle") ∧
  (∀ sig, parseMethodDescriptor y.desc = some sig → n = sig.parameters.length) ∧ (Cond.methodLink own index y).before args s = true ∧ (Cond.static y).before args s = true
theorem vx_cwSW {own : String} {index maxL mc ms : Nat} {y : MethodName} {bytes : ByteArray} {ret : Option FieldType} {hh : List (Nat × Nat × Nat × Nat)} {Ts ws ws' : List Cond} {rm : Room} (n : Nat) (ht : ∀ w ∈ Ts, w.before args s = true) (hT : GoodIn Ts (va_wsS own index y ws)) (hw : ws = Cond.codeWith y bytes maxL ret hh :: ws') (hrc : rm.cells = mc) (hrs : rm.slots = ms)
    (hd : y.cls ≠ "java/lang/invoke/MethodHandle" ∧ y.cls ≠ "java/lang/invoke/VarHandle" ∧ (parseMethodDescriptor y.desc).map (fun d => d.parameters.length) = some n) (hR : rm.frames + 1 ≤ R.frames ∧ 8 + (maxL + 11) + rm.locals ≤ R.locals) :
    vx_CSW R s args own index y bytes maxL ret hh ws rm mc ms n := by
  have ok : ∀ w ∈ va_wsS own index y ws, w.before args s = true := fun w h => ht w (hT w h).1
  have hG : GoodIn Ts ws := fun w h => hT w (by unfold va_wsS; exact List.mem_append_right _ h)
  have hc : Cond.codeWith y bytes maxL ret hh ∈ ws := by rw [hw]; exact List.mem_cons_self
  refine ⟨⟨hrc, hrs, hR.1, hR.2, pay_in ht hG, hc⟩, ht _ (hG _ hc).1, ok _ (by simp [va_wsS]), ⟨hd.1, hd.2.1⟩, fun sig h => ?_, ok _ (by simp [va_wsS]), ok _ (by simp [va_wsS])⟩
  have h2 := hd.2.2
  rw [h] at h2
  exact (Option.some.inj h2).symm
theorem vx_callSW (X : Stand p l e R s m args below meth c T locs cells slots) (hexec : p.tables.exec = Jvm.exec) {own : String} {index : Nat} {y : MethodName} {bytes : ByteArray} {maxL : Nat} {ret : Option FieldType} {hh : List (Nat × Nat × Nat × Nat)}
    (hown : s.vm.findClass own = some m.cls) (hlink : (Cond.methodLink own index y).before args s = true) (hstat : (Cond.static y).before args s = true) (hinit : (Cond.initialized y.cls).before args s = true)
    (hcode : (Cond.codeWith y bytes maxL ret hh).before args s = true) (hy : y.cls ≠ "java/lang/invoke/MethodHandle" ∧ y.cls ≠ "java/lang/invoke/VarHandle")
    {W9 : Nat} {Pre : Pt → Array Value → Prop} {Post : Pt → Array Value → Option Value → Pt → Prop} (hK : Back l R p e below s args y 3 W9 Pre Post)
    {g : JFrame} (hg : g.method = m) (hsize : g.locals.size = c.maxLocals) {argsL rest : List Value} (hlen : ∀ sig, parseMethodDescriptor y.desc = some sig → argsL.length = sig.parameters.length)
    (hstack : g.stack = argsL.reverse ++ rest) (hW : 2 * g.monitorRoom + (rest.map fun v => v.category).sum ≤ W9) (hdg : decode c.code g.pc = .ok (.invokestatic index, 3))
    (hpre : ∀ vm₁, s.WarmedH vm₁ → Pre ⟨T.setVm vm₁, locs, cells, slots⟩ argsL.toArray) :
    ∃ (v : Option Value) (vm₁ : Vm) (B : Pt), s.WarmedH vm₁ ∧ Stand p l e R s m args below meth c B.U B.locs B.cells B.slots ∧ Post ⟨T.setVm vm₁, locs, cells, slots⟩ argsL.toArray v B ∧
      ∀ target, Steps p.tables e below (B.U.setTop { g with pc := g.pc + 3, stack := v.toList ++ rest }) target → Steps p.tables e below (T.setTop g) target := by
  obtain ⟨mk, methM, cM, hnamed, hmethM, -, -, -, -, -, -, hsigM⟩ := Cond.codeWith_spec hcode
  have hstatic : methM.isStatic = true := Cond.static_spec hnamed hmethM hstat
  obtain ⟨kP, hkP, -⟩ := className_of_methodNamed hnamed
  have hinitP : kP.init = .initialized := Cond.initialized_spec (findClass_of_methodNamed hnamed) hkP hinit
  obtain ⟨vm₁, X₁, hstep₁⟩ := X.invokestatic hexec hown hlink hnamed hmethM hstatic hkP hinitP hy (g := g) hg (argsL := argsL) (rest := rest) (hlen _ hsigM) hstack hdg
  obtain ⟨v, B, X', hpost, hsteps⟩ := hK m meth c ⟨T.setVm vm₁, locs, cells, slots⟩ { g with stack := rest } (.invokestatic index) mk argsL.toArray X₁ hg hsize hdg hW (X₁.named hnamed) (hpre vm₁ X₁.warmed)
  exact ⟨v, vm₁, B, X₁.warmed, X', hpost, fun target h => hstep₁ _ fun acts => by rw [doInvoke_state]; exact hsteps.trans h⟩
theorem vx_runSW {y : MethodName} {bytes cc : ByteArray} {maxL nL mc ms n index : Nat} {ret : Option FieldType} {hh : List (Nat × Nat × Nat × Nat)} {ws : List Cond} {rm : Room} {Pc : Array Value → State → Prop} {Qc : Array Value → State → Outcome → State → Prop} {free : Addr → Prop} {Ts : List Cond} {own : String} {As rest : List Value} {g : JFrame}
    (S : CallFix p m c cc nL s args Ts own) (hM : Met l y ws rm Pc Qc mc ms free) (cw : vx_CSW R s args own index y bytes maxL ret hh ws rm mc ms n) (hp : PreS s H Pc As)
    (hg : g.method = m) (hn : As.length = n) (hsize : g.locals.size = nL) (hstack : g.stack = As.reverse ++ rest) (hW : 2 * g.monitorRoom + (rest.map fun v => v.category).sum ≤ 8) (hdg : decode cc g.pc = .ok (.invokestatic index, 3)) (hf : cells + mc ≤ R.cells ∧ slots + ms ≤ R.slots) :
    va_Run p l e R s m args below meth c H locs cells slots mc ms g rest (Qc As.toArray) (free) := by
  obtain ⟨⟨hrc, hrs, hfr, hlo, hws, hcw⟩, hcode, hini, hy, hlen, hl, hstt⟩ := cw
  have hK : Back l R p e below s args y 3 8 (PreOf R mc ms Pc) (PostOf Qc mc ms free) := va_backW (hh := hh) (bytes := bytes) (maxL := maxL) (ret := ret) hM hp.1 hrc hrs hfr hlo hws hcw (fun a' U hW => word_at hW (Or.inl (by first | rfl | simp [Cond.onTables, Cond.keeps, Cond.steady])) hini)
  obtain ⟨hx, hb, hml, ho, -⟩ := S
  intro T hT X
  obtain ⟨v, vm₁, ⟨U', l2, c2, s2⟩, hW₁, X', ⟨g', mk, t, L, e1, e2, hq, h1, hL, h2, h3⟩, st⟩ := vx_callSW X hx (hh := hh) (bytes := bytes) (maxL := maxL) (ret := ret) ho hl hstt hini hcode hy hK hg (hsize.trans hml.symm) (argsL := As) (rest := rest) (fun sig h => hn.trans (hlen sig h)) hstack hW (by rw [hb]; exact hdg)
    (fun vm₁ hW₁ => ⟨hf.1, hf.2, hp.2 (T.setVm vm₁) hT hW₁⟩)
  dsimp only [Pt.U, Pt.locs, Pt.cells, Pt.slots] at X' e1 e2 h1 h2 h3 st
  subst h1; subst h2; subst h3
  exact ⟨v, (T.setVm vm₁).calling g' mk As.toArray, t, U', L, hT, X', hL, e1, e2, hq, st⟩
/-- not caught here, past rows that name other classes: it goes on to the caller -/
theorem vx_outP {p : Program} {l : Launch} {e : Env} {R : Room} {s : State} {m : MethodId} {args : Array Value} {below : List Frame} {meth : Method} {c : Code} {H : Heap} {locs : List Loc} {cells slots : Nat} {free : Addr → Prop} {ls : Array Slot} {rest : List Value} {Qc : Array Value → State → Outcome → State → Prop} {XC : String → State → State → Prop}
    {pc : Nat} {own E : String} {ce : Cell} {q : Addr} {mc ms : Nat} (hown : s.vm.findClass own = some m.cls) (hlocks : meth.locks = false)
    (hpass : ∀ z ∈ c.exceptionTable.toList, covers z pc = false ∨ (z.catchType ≠ 0 ∧ ∃ nm : String, (Cond.classLink own z.catchType nm).before args s = true ∧ va_Nc E nm s)) (hcell : H[q]? = some ce) (hv : ce.vm = .none) (hcl : s.vm.findClass E = some ce.cls)
    (hx : ∀ t : State, t.heap = H → s.vm.Alike t.vm → XC E s t) (hf : ∀ z ∈ locs, free z.base) (hc : cells ≤ mc) (hs : slots ≤ ms) :
    vx_W p l e R s m args below meth c H locs cells slots (vx_MQ below Qc XC args s mc ms free) (F0 m pc ls rest) q := by
  intro T hT X
  have hpl : e.platform.magicAccessors = ({} : Platform).magicAccessors := by rw [X.admits.platform]
  obtain ⟨vm', hW', X', st⟩ := X.outThrough hlocks q (g := F0 m pc ls rest) rfl rfl rfl (cell := ce) (by rw [hT]; exact hcell) (by rw [hv]; rfl)
    (by obtain ⟨k9, h9, -⟩ := Vm.findClass_spec hcl; exact ⟨k9, h9⟩) (fun z hz => by
      rcases hpass z hz with h | ⟨hz0, nm, hl1, hn1⟩
      · exact Or.inl h
      · obtain ⟨c6, hc6, hcl6⟩ := Cond.classLink_spec hown hl1 e.platform hpl
        obtain ⟨a8, b8, h1, h2, h3⟩ := hn1
        cases Option.some.inj (h1.symm.trans hcl)
        cases Option.some.inj (h2.symm.trans hc6)
        exact Or.inr ⟨hz0, _, hcl6, h3⟩)
  obtain ⟨g₀, hfr⟩ := X'.frames_eq
  have hcell9 : ((T.setVm vm').setFrames (.throwing q :: below)).heap[q]? = some ce := by
    show T.heap[q]? = some ce
    rw [hT]; exact hcell
  have hend : Ended ((T.setVm vm').setFrames (.throwing q :: below)) below (.threw q) := State.frames_setFrames _ (State.cur_lt_of_frames hfr)
  refine ⟨(T.setVm vm').setFrames (.throwing q :: below), ?_, .threw q, X'.here.running, hend, Or.inr ⟨q, rfl, E, ce, locs, hx _ hT (X'.ends _).1.alike, hcell9, hv, hcl, (X'.ends _).1, (X'.ends _).2.mono hc hs, hf⟩⟩
  rw [X.pushThrowing_eq]
  exact st
/-- a thing of a world lies in the heap -/
theorem vx_lt {D : va_G} {cl : List vw_C} {ws : va_W} {H1 : Heap} (h : va_P D cl ws H1) {k : Nat} {q : Nat × va_E} (hk : ws[k]? = some q) : q.1 < H1.size := (h k q hk).lt
end VXS
/-! ===== END ===== -/
/-! ===== BEGIN methods with a table of their own: called by a name, returning or throwing ===== -/
section VXH
/-! vx_backW, vx_callVX, vx_callSX, vx_callVW, vx_runVW, vx_runVX, vx_runSX, vx_ofWH follow the same proofs as their sisters above (Free/Laws.lean, Shelf42/LK1.lean); vx_outP calls Shelf42/NT130.lean (outThrough). -/
section
variable {l : Launch} {R : Room} {p : Program} {e : Env} {below : List Frame} {s : State} {sargs : Array Value} {y : MethodName} {len W9 : Nat}
theorem vx_backW {ws : List Cond} {rm : Room} {Pc : Array Value → State → Prop} {Qc : Array Value → State → Outcome → State → Prop} {XC : String → State → State → Prop} {mc ms : Nat} {free : Addr → Prop} {bytes : ByteArray} {maxL : Nat} {ret : Option FieldType} {hh : List (Nat × Nat × Nat × Nat)}
    (hM : vx_Met l y ws rm Pc Qc XC mc ms free) (hblind : FrameBlind Pc) (hrc : rm.cells = mc) (hrs : rm.slots = ms)
    (hframes : rm.frames + 1 ≤ R.frames) (hlocals : W9 + (maxL + 11) + rm.locals ≤ R.locals)
    (hws : ∀ w ∈ ws, ∀ a' U, s.WarmedH U.vm → w.before a' U = true) (hcode : Cond.codeWith y bytes maxL ret hh ∈ ws) (hinit : ∀ a' U, s.WarmedH U.vm → (Cond.initialized y.cls).before a' U = true) :
    vx_Back l R p e below s sargs y len W9 (PreOf R mc ms Pc) (PostOf Qc mc ms free) (vx_Post XC mc ms free) := by
  intro m meth c A g ig mk a X hg hsize hdg hW hn hp
  have h1 : (headSpec ws rm).pre.before a A.U = true := atoms_intro fun w hw => hws w hw _ _ X.warmed
  have h2 : (Cond.codeWith y bytes maxL ret hh).before a A.U = true := hws _ hcode _ _ X.warmed
  have h3 : (Cond.initialized y.cls).before a A.U = true := hinit _ _ X.warmed
  have h4 : A.cells + (headSpec ws rm).room.cells ≤ R.cells := by rw [show (headSpec ws rm).room.cells = mc from hrc]; exact hp.1
  have h5 : A.slots + (headSpec ws rm).room.slots ≤ R.slots := by rw [show (headSpec ws rm).room.slots = ms from hrs]; exact hp.2.1
  have hPc : Pc a (A.U.calling g mk a) := hblind _ _ _ _ hp.2.2
  obtain ⟨U, Ls, c0, s0⟩ := A
  dsimp only [Pt.U, Pt.locs, Pt.cells, Pt.slots] at h1 h2 h3 h4 h5 X hn hPc ⊢
  obtain ⟨m9, methY, cY, hn9, hmY, hcY, -, hlY, -⟩ := Cond.codeWith_spec h2
  cases Option.some.inj (hn9.symm.trans hn)
  obtain ⟨kY, hkY, -⟩ := className_of_methodNamed hn
  have hinitY : kY.init = .initialized := Cond.initialized_spec (findClass_of_methodNamed hn) hkY h3
  have h : At U g.method c below := by rw [hg]; exact X.here
  have hlocals9 : W9 + (maxL + 11) + (headSpec ws rm).room.locals ≤ R.locals := hlocals
  have happ : (headSpec ws rm).appliesLoose y e.platform (U.calling g mk a) = true :=
    Spec.appliesLoose_calling (g := g) h hdg hn hkY hinitY
      (X.room_calling (g := g) (R' := (headSpec ws rm).room) hsize hmY hcY hframes (by rw [hlY]; omega) h4 h5) h1
  obtain ⟨mid, hmid⟩ := h.above
  have hfr : (U.setTop g).frames = (.java g :: mid) ++ below := by rw [State.frames_setTop' g h.top, hmid]; rfl
  obtain ⟨o, s₂, hsteps, -, hend, hq⟩ := Steps.callFree hM p X.admits X.cas X.clock (acts := []) hfr happ hPc trivial
  have hq' : vx_Q Qc XC mc ms free a (U.calling g mk a) o s₂ := hq
  rw [State.frames_setTop' g h.top] at hend
  obtain ⟨g₀, hg0⟩ := Option.isSome_iff_exists.mp h.top
  obtain ⟨r, hr⟩ := State.topJava?_eq_some.mp hg0
  have hr' : (({ U with heap := s₂.heap, slotsUsed := s₂.slotsUsed } : State).setVm s₂.vm).frames = .java g₀ :: r := hr
  rcases hq' with ⟨hqc, L, hfe, hL⟩ | ⟨q, rfl, E, ce, L, hx, hce, hcv, hcl, hW₂, hsm, hL⟩
  · obtain ⟨⟨v, rfl⟩, hW₂, e2, q2, q3, q4, q5, q6⟩ := id hfe
    have e3 : s₂ = ({ (U.calling g mk a).setFrames s₂.frames with heap := s₂.heap, slotsUsed := s₂.slotsUsed } : State).setVm s₂.vm := by
      have : s₂ = ({ s₂ with vm := (U.calling g mk a).vm } : State).setVm s₂.vm := rfl
      rw [e2] at this
      exact this
    obtain ⟨c₂, i₂, len₂, hc₂, hd₂, hf₂⟩ := hend
    have hW' : U.WarmedH s₂.vm := hW₂
    have hcc : c₂ = c := by
      have h1 : s₂.code? g.method = U.code? g.method := by
        rw [State.code?_eq, State.code?_eq, hW'.alike.method?]
      exact Option.some.inj (hc₂.symm.trans (h1.trans h.code))
    subst hcc
    have hlen : len₂ = len := by rw [hdg] at hd₂; cases hd₂; rfl
    subst hlen
    have hs₂ : s₂ = (({ U with heap := s₂.heap, slotsUsed := s₂.slotsUsed } : State).setVm s₂.vm).setTop { g with pc := g.pc + len₂, stack := v.toList ++ g.stack } := by
      refine e3.trans ?_
      rw [hf₂, State.calling_eq h.top, State.setFrames_setFrames, State.setTop_of_frames _ hr', hr]
      rfl
    have hsame : U.sameButNew ({ U with heap := s₂.heap, slotsUsed := s₂.slotsUsed } : State) L mc ms := by
      refine ⟨?_, q2, q3, q4, q5, q6⟩
      obtain ⟨t, ht, -⟩ := State.frames_cons hr
      show ({ U with heap := s₂.heap, slotsUsed := s₂.slotsUsed } : State) = { U.setFrames U.frames with heap := s₂.heap, slotsUsed := s₂.slotsUsed }
      rw [State.setFrames_self ht]
    subst hg
    refine Or.inl ⟨v, ⟨(({ U with heap := s₂.heap, slotsUsed := s₂.slotsUsed } : State).setVm s₂.vm), Ls ++ L, c0 + mc, s0 + ms⟩,
      ⟨X.admits, X.cas, X.clock, X.frames, X.room, X.hears, X.method, X.code, (X.here.setHeapUsed s₂.heap s₂.slotsUsed).setVm hW'.alike, X.tail, State.WarmedH.trans X.warmed hW', X.limits, X.bytes, X.same.trans (hsame.setVm s.vm)⟩,
      ⟨g, mk, s₂, L, rfl, rfl, hqc, rfl, hL, rfl, rfl⟩, ?_⟩
    show Steps p.tables e below _ ((({ U with heap := s₂.heap, slotsUsed := s₂.slotsUsed } : State).setVm s₂.vm).setTop { g with pc := g.pc + len₂, stack := v.toList ++ g.stack })
    rw [← hs₂]
    exact hsteps
  · obtain ⟨e2, q2, q3, q4, q5, q6⟩ := id hsm
    have e3 : s₂ = ({ (U.calling g mk a).setFrames s₂.frames with heap := s₂.heap, slotsUsed := s₂.slotsUsed } : State).setVm s₂.vm := by
      have : s₂ = ({ s₂ with vm := (U.calling g mk a).vm } : State).setVm s₂.vm := rfl
      rw [e2] at this
      exact this
    have hf₂ : s₂.frames = .throwing q :: .java g :: U.frames.tail := hend
    have hW' : U.WarmedH s₂.vm := hW₂
    have hs₂ : s₂ = ((({ U with heap := s₂.heap, slotsUsed := s₂.slotsUsed } : State).setVm s₂.vm).setTop g).pushFrame (.throwing q) := by
      refine e3.trans ?_
      rw [hf₂, State.calling_eq h.top, State.setFrames_setFrames, State.pushFrame, State.frames_setTop _ hr', State.setTop_of_frames _ hr', State.setFrames_setFrames, hr]
      rfl
    have hsame : U.sameButNew ({ U with heap := s₂.heap, slotsUsed := s₂.slotsUsed } : State) L mc ms := by
      refine ⟨?_, q2, q3, q4, q5, q6⟩
      obtain ⟨t, ht, -⟩ := State.frames_cons hr
      show ({ U with heap := s₂.heap, slotsUsed := s₂.slotsUsed } : State) = { U.setFrames U.frames with heap := s₂.heap, slotsUsed := s₂.slotsUsed }
      rw [State.setFrames_self ht]
    subst hg
    refine Or.inr ⟨q, ⟨(({ U with heap := s₂.heap, slotsUsed := s₂.slotsUsed } : State).setVm s₂.vm), Ls ++ L, c0 + mc, s0 + ms⟩,
      ⟨X.admits, X.cas, X.clock, X.frames, X.room, X.hears, X.method, X.code, (X.here.setHeapUsed s₂.heap s₂.slotsUsed).setVm hW'.alike, X.tail, State.WarmedH.trans X.warmed hW', X.limits, X.bytes, X.same.trans (hsame.setVm s.vm)⟩,
      ⟨g, mk, s₂, L, E, ce, rfl, rfl, hx, hce, hcv, hcl, rfl, hL, rfl, rfl⟩, ?_⟩
    show Steps p.tables e below _ (((({ U with heap := s₂.heap, slotsUsed := s₂.slotsUsed } : State).setVm s₂.vm).setTop g).pushFrame (.throwing q))
    rw [← hs₂]
    exact hsteps
end
variable {p : Program} {l : Launch} {e : Env} {R : Room} {s : State} {m : MethodId} {args : Array Value} {below : List Frame} {meth : Method} {c : Code} {T : State} {H : Heap} {locs : List Loc} {cells slots : Nat}
theorem vx_callVX (X : Stand p l e R s m args below meth c T locs cells slots) (hexec : p.tables.exec = Jvm.exec) {own C : String} {index : Nat} {y : MethodName} {bytes : ByteArray} {maxL : Nat} {ret : Option FieldType} {hh : List (Nat × Nat × Nat × Nat)}
    (hown : s.vm.findClass own = some m.cls) (hlink : (Cond.methodLink own index y).before args s = true) (hinst : (Cond.instanceMethod y).before args s = true) (hsel : (Cond.selects C y y).before args s = true)
    (hcode : (Cond.codeWith y bytes maxL ret hh).before args s = true) (hy : y.cls ≠ "java/lang/invoke/MethodHandle" ∧ y.cls ≠ "java/lang/invoke/VarHandle")
    {W9 : Nat} {Pre : Pt → Array Value → Prop} {Post : Pt → Array Value → Option Value → Pt → Prop} {PostX : Pt → Array Value → Addr → Pt → Prop} (hK : vx_Back l R p e below s args y 3 W9 Pre Post PostX)
    {b : Addr} {cellB : Cell} (hcell : T.heap[b]? = some cellB) (hobj : cellB.vm.isStatics = false) (hcls : s.vm.findClass C = some cellB.cls)
    {g : JFrame} (hg : g.method = m) (hsize : g.locals.size = c.maxLocals) {argsL rest : List Value} (hlen : ∀ sig, parseMethodDescriptor y.desc = some sig → argsL.length = sig.parameters.length)
    (hstack : g.stack = argsL.reverse ++ .ref b :: rest) (hW : 2 * g.monitorRoom + (rest.map fun v => v.category).sum ≤ W9) (hdg : decode c.code g.pc = .ok (.invokevirtual index, 3))
    (hpre : ∀ vm₁, s.WarmedH vm₁ → Pre ⟨T.setVm vm₁, locs, cells, slots⟩ (Value.ref b :: argsL).toArray) :
    (∃ (v : Option Value) (vm₁ : Vm) (B : Pt), s.WarmedH vm₁ ∧ Stand p l e R s m args below meth c B.U B.locs B.cells B.slots ∧ Post ⟨T.setVm vm₁, locs, cells, slots⟩ (Value.ref b :: argsL).toArray v B ∧
      ∀ target, Steps p.tables e below (B.U.setTop { g with pc := g.pc + 3, stack := v.toList ++ rest }) target → Steps p.tables e below (T.setTop g) target) ∨
    (∃ (q : Addr) (vm₁ : Vm) (B : Pt), s.WarmedH vm₁ ∧ Stand p l e R s m args below meth c B.U B.locs B.cells B.slots ∧ PostX ⟨T.setVm vm₁, locs, cells, slots⟩ (Value.ref b :: argsL).toArray q B ∧
      Steps p.tables e below (T.setTop g) ((B.U.setTop { g with stack := rest }).pushFrame (.throwing q))) := by
  obtain ⟨mk, methM, hnamed, hmethM, hstM, habM⟩ := Cond.instanceMethod_spec hinst
  obtain ⟨m8, methM', cM, hn8, hmethM', -, -, -, -, -, -, hsigM⟩ := Cond.codeWith_spec hcode
  cases Option.some.inj (hn8.symm.trans hnamed)
  cases hmethM.symm.trans hmethM'
  obtain ⟨c2, r2, m2, q1, q2, q3, q4, kP, hkP, hkPi⟩ := Cond.selects_spec hsel
  cases hcls.symm.trans q1
  cases (State.methodFound?_of_named hnamed hy).symm.trans q2
  cases hnamed.symm.trans q3
  have hselP : selectMethod e.platform s.vm cellB.cls mk = .method mk := by rw [Launch.admits_selectMethod X.admits]; exact q4
  obtain ⟨vm₁, X₁, hstep₁⟩ := X.invokevirtual hexec hown hlink hnamed hmethM hstM hkP hkPi hy (a := b) (cell := cellB) hcell
    (fun z h => by rw [h] at hobj; cases hobj) hselP hmethM habM hkP hkPi (g := g) hg (argsL := argsL) (rest := rest) (hlen _ hsigM) hstack hdg
  rcases hK m meth c ⟨T.setVm vm₁, locs, cells, slots⟩ { g with stack := rest } (.invokevirtual index) mk (Value.ref b :: argsL).toArray X₁ hg hsize hdg hW (X₁.named hnamed) (hpre vm₁ X₁.warmed) with ⟨v, B, X', hpost, hsteps⟩ | ⟨q, B, X', hpost, hsteps⟩
  · exact Or.inl ⟨v, vm₁, B, X₁.warmed, X', hpost, fun target h => hstep₁ _ fun acts => by rw [doInvoke_state]; exact hsteps.trans h⟩
  · exact Or.inr ⟨q, vm₁, B, X₁.warmed, X', hpost, hstep₁ _ fun acts => by rw [doInvoke_state]; exact hsteps⟩
theorem vx_callSX (X : Stand p l e R s m args below meth c T locs cells slots) (hexec : p.tables.exec = Jvm.exec) {own : String} {index : Nat} {y : MethodName} {bytes : ByteArray} {maxL : Nat} {ret : Option FieldType} {hh : List (Nat × Nat × Nat × Nat)}
    (hown : s.vm.findClass own = some m.cls) (hlink : (Cond.methodLink own index y).before args s = true) (hstat : (Cond.static y).before args s = true) (hinit : (Cond.initialized y.cls).before args s = true)
    (hcode : (Cond.codeWith y bytes maxL ret hh).before args s = true) (hy : y.cls ≠ "java/lang/invoke/MethodHandle" ∧ y.cls ≠ "java/lang/invoke/VarHandle")
    {W9 : Nat} {Pre : Pt → Array Value → Prop} {Post : Pt → Array Value → Option Value → Pt → Prop} {PostX : Pt → Array Value → Addr → Pt → Prop} (hK : vx_Back l R p e below s args y 3 W9 Pre Post PostX)
    {g : JFrame} (hg : g.method = m) (hsize : g.locals.size = c.maxLocals) {argsL rest : List Value} (hlen : ∀ sig, parseMethodDescriptor y.desc = some sig → argsL.length = sig.parameters.length)
    (hstack : g.stack = argsL.reverse ++ rest) (hW : 2 * g.monitorRoom + (rest.map fun v => v.category).sum ≤ W9) (hdg : decode c.code g.pc = .ok (.invokestatic index, 3))
    (hpre : ∀ vm₁, s.WarmedH vm₁ → Pre ⟨T.setVm vm₁, locs, cells, slots⟩ argsL.toArray) :
    (∃ (v : Option Value) (vm₁ : Vm) (B : Pt), s.WarmedH vm₁ ∧ Stand p l e R s m args below meth c B.U B.locs B.cells B.slots ∧ Post ⟨T.setVm vm₁, locs, cells, slots⟩ argsL.toArray v B ∧
      ∀ target, Steps p.tables e below (B.U.setTop { g with pc := g.pc + 3, stack := v.toList ++ rest }) target → Steps p.tables e below (T.setTop g) target) ∨
    (∃ (q : Addr) (vm₁ : Vm) (B : Pt), s.WarmedH vm₁ ∧ Stand p l e R s m args below meth c B.U B.locs B.cells B.slots ∧ PostX ⟨T.setVm vm₁, locs, cells, slots⟩ argsL.toArray q B ∧
      Steps p.tables e below (T.setTop g) ((B.U.setTop { g with stack := rest }).pushFrame (.throwing q))) := by
  obtain ⟨mk, methM, cM, hnamed, hmethM, -, -, -, -, -, -, hsigM⟩ := Cond.codeWith_spec hcode
  have hstatic : methM.isStatic = true := Cond.static_spec hnamed hmethM hstat
  obtain ⟨kP, hkP, -⟩ := className_of_methodNamed hnamed
  have hinitP : kP.init = .initialized := Cond.initialized_spec (findClass_of_methodNamed hnamed) hkP hinit
  obtain ⟨vm₁, X₁, hstep₁⟩ := X.invokestatic hexec hown hlink hnamed hmethM hstatic hkP hinitP hy (g := g) hg (argsL := argsL) (rest := rest) (hlen _ hsigM) hstack hdg
  rcases hK m meth c ⟨T.setVm vm₁, locs, cells, slots⟩ { g with stack := rest } (.invokestatic index) mk argsL.toArray X₁ hg hsize hdg hW (X₁.named hnamed) (hpre vm₁ X₁.warmed) with ⟨v, B, X', hpost, hsteps⟩ | ⟨q, B, X', hpost, hsteps⟩
  · exact Or.inl ⟨v, vm₁, B, X₁.warmed, X', hpost, fun target h => hstep₁ _ fun acts => by rw [doInvoke_state]; exact hsteps.trans h⟩
  · exact Or.inr ⟨q, vm₁, B, X₁.warmed, X', hpost, hstep₁ _ fun acts => by rw [doInvoke_state]; exact hsteps⟩
theorem vx_callVW (X : Stand p l e R s m args below meth c T locs cells slots) (hexec : p.tables.exec = Jvm.exec) {own C : String} {index : Nat} {y : MethodName} {bytes : ByteArray} {maxL : Nat} {ret : Option FieldType} {hh : List (Nat × Nat × Nat × Nat)}
    (hown : s.vm.findClass own = some m.cls) (hlink : (Cond.methodLink own index y).before args s = true) (hinst : (Cond.instanceMethod y).before args s = true) (hsel : (Cond.selects C y y).before args s = true)
    (hcode : (Cond.codeWith y bytes maxL ret hh).before args s = true) (hy : y.cls ≠ "java/lang/invoke/MethodHandle" ∧ y.cls ≠ "java/lang/invoke/VarHandle")
    {W9 : Nat} {Pre : Pt → Array Value → Prop} {Post : Pt → Array Value → Option Value → Pt → Prop} (hK : Back l R p e below s args y 3 W9 Pre Post)
    {b : Addr} {cellB : Cell} (hcell : T.heap[b]? = some cellB) (hobj : cellB.vm.isStatics = false) (hcls : s.vm.findClass C = some cellB.cls)
    {g : JFrame} (hg : g.method = m) (hsize : g.locals.size = c.maxLocals) {argsL rest : List Value} (hlen : ∀ sig, parseMethodDescriptor y.desc = some sig → argsL.length = sig.parameters.length)
    (hstack : g.stack = argsL.reverse ++ .ref b :: rest) (hW : 2 * g.monitorRoom + (rest.map fun v => v.category).sum ≤ W9) (hdg : decode c.code g.pc = .ok (.invokevirtual index, 3))
    (hpre : ∀ vm₁, s.WarmedH vm₁ → Pre ⟨T.setVm vm₁, locs, cells, slots⟩ (Value.ref b :: argsL).toArray) :
    ∃ (v : Option Value) (vm₁ : Vm) (B : Pt), s.WarmedH vm₁ ∧ Stand p l e R s m args below meth c B.U B.locs B.cells B.slots ∧ Post ⟨T.setVm vm₁, locs, cells, slots⟩ (Value.ref b :: argsL).toArray v B ∧
      ∀ target, Steps p.tables e below (B.U.setTop { g with pc := g.pc + 3, stack := v.toList ++ rest }) target → Steps p.tables e below (T.setTop g) target := by
  obtain ⟨mk, methM, hnamed, hmethM, hstM, habM⟩ := Cond.instanceMethod_spec hinst
  obtain ⟨m8, methM', cM, hn8, hmethM', -, -, -, -, -, -, hsigM⟩ := Cond.codeWith_spec hcode
  cases Option.some.inj (hn8.symm.trans hnamed)
  cases hmethM.symm.trans hmethM'
  obtain ⟨c2, r2, m2, q1, q2, q3, q4, kP, hkP, hkPi⟩ := Cond.selects_spec hsel
  cases hcls.symm.trans q1
  cases (State.methodFound?_of_named hnamed hy).symm.trans q2
  cases hnamed.symm.trans q3
  have hselP : selectMethod e.platform s.vm cellB.cls mk = .method mk := by rw [Launch.admits_selectMethod X.admits]; exact q4
  obtain ⟨vm₁, X₁, hstep₁⟩ := X.invokevirtual hexec hown hlink hnamed hmethM hstM hkP hkPi hy (a := b) (cell := cellB) hcell
    (fun z h => by rw [h] at hobj; cases hobj) hselP hmethM habM hkP hkPi (g := g) hg (argsL := argsL) (rest := rest) (hlen _ hsigM) hstack hdg
  obtain ⟨v, B, X', hpost, hsteps⟩ := hK m meth c ⟨T.setVm vm₁, locs, cells, slots⟩ { g with stack := rest } (.invokevirtual index) mk (Value.ref b :: argsL).toArray X₁ hg hsize hdg hW (X₁.named hnamed) (hpre vm₁ X₁.warmed)
  exact ⟨v, vm₁, B, X₁.warmed, X', hpost, fun target h => hstep₁ _ fun acts => by rw [doInvoke_state]; exact hsteps.trans h⟩
abbrev vx_CVW (R : Room) (s : State) (args : Array Value) (own C : String) (index : Nat) (y : MethodName) (bytes : ByteArray) (maxL : Nat) (ret : Option FieldType) (hh : List (Nat × Nat × Nat × Nat)) (ws : List Cond) (rm : Room) (mc ms n : Nat) : Prop :=
  (rm.cells = mc ∧ rm.slots = ms ∧ rm.frames + 1 ≤ R.frames ∧ 8 + (maxL + 11) + rm.locals ≤ R.locals ∧ (∀ w ∈ ws, ∀ (a' : Array Value) (U : State), s.WarmedH U.vm → w.before a' U = true) ∧ Cond.codeWith y bytes maxL ret hh ∈ ws) ∧
  (Cond.codeWith y bytes maxL ret hh).before args s = true ∧ (Cond.initialized y.cls).before args s = true ∧ (y.cls ≠ "java/lang/invoke/MethodHandle" ∧ y.cls ≠ "java/lang/invoke/VarHandle") ∧
  (∀ sig, parseMethodDescriptor y.desc = some sig → n = sig.parameters.length) ∧ (Cond.methodLink own index y).before args s = true ∧ (Cond.instanceMethod y).before args s = true ∧ (Cond.selects C y y).before args s = true
theorem vx_cwVW {own C : String} {index maxL mc ms : Nat} {y : MethodName} {bytes : ByteArray} {ret : Option FieldType} {hh : List (Nat × Nat × Nat × Nat)} {Ts ws ws' : List Cond} {rm : Room} (n : Nat) (ht : ∀ w ∈ Ts, w.before args s = true) (hT : GoodIn Ts (wsV own index C y ws)) (hw : ws = Cond.codeWith y bytes maxL ret hh :: ws') (hrc : rm.cells = mc) (hrs : rm.slots = ms)
    (hd : y.cls = C ∧ y.cls ≠ "java/lang/invoke/MethodHandle" ∧ y.cls ≠ "java/lang/invoke/VarHandle" ∧ (parseMethodDescriptor y.desc).map (fun d => d.parameters.length) = some n) (hR : rm.frames + 1 ≤ R.frames ∧ 8 + (maxL + 11) + rm.locals ≤ R.locals) :
    vx_CVW R s args own C index y bytes maxL ret hh ws rm mc ms n := by
  obtain ⟨hC, hd⟩ := hd
  subst hC
  have ok : ∀ w ∈ wsV own index y.cls y ws, w.before args s = true := fun w h => ht w (hT w h).1
  have hG : GoodIn Ts ws := fun w h => hT w (by unfold wsV; exact List.mem_append_right _ h)
  have hc : Cond.codeWith y bytes maxL ret hh ∈ ws := by rw [hw]; exact List.mem_cons_self
  refine ⟨⟨hrc, hrs, hR.1, hR.2, pay_in ht hG, hc⟩, ht _ (hG _ hc).1, ok _ (by simp [wsV]), ⟨hd.1, hd.2.1⟩, fun sig h => ?_, ok _ (by simp [wsV]), ok _ (by simp [wsV]), ok _ (by simp [wsV])⟩
  have h2 := hd.2.2
  rw [h] at h2
  exact (Option.some.inj h2).symm
theorem vx_runVW {y : MethodName} {bytes cc : ByteArray} {maxL nL mc ms n index : Nat} {ret : Option FieldType} {hh : List (Nat × Nat × Nat × Nat)} {ws : List Cond} {rm : Room} {Pc : Array Value → State → Prop} {Qc : Array Value → State → Outcome → State → Prop} {free : Addr → Prop} {Ts : List Cond} {own C : String} {b : Addr} {As rest : List Value} {g : JFrame}
    (S : CallFix p m c cc nL s args Ts own) (hM : Met l y ws rm Pc Qc mc ms free) (cw : vx_CVW R s args own C index y bytes maxL ret hh ws rm mc ms n) (hp : PreV s H C b Pc As)
    (hg : g.method = m) (hn : As.length = n) (hsize : g.locals.size = nL) (hstack : g.stack = As.reverse ++ .ref b :: rest) (hW : 2 * g.monitorRoom + (rest.map fun v => v.category).sum ≤ 8) (hdg : decode cc g.pc = .ok (.invokevirtual index, 3)) (hf : cells + mc ≤ R.cells ∧ slots + ms ≤ R.slots) :
    va_Run p l e R s m args below meth c H locs cells slots mc ms g rest (Qc (Value.ref b :: As).toArray) free := by
  obtain ⟨⟨hrc, hrs, hfr, hlo, hws, hcw⟩, hcode, hini, hy, hlen, hl, hin, hse⟩ := cw
  have hK : Back l R p e below s args y 3 8 (PreOf R mc ms Pc) (PostOf Qc mc ms free) := va_backW (hh := hh) (bytes := bytes) (maxL := maxL) (ret := ret) hM hp.1 hrc hrs hfr hlo hws hcw (fun a' U hW => word_at hW (Or.inl (by first | rfl | simp [Cond.onTables, Cond.keeps, Cond.steady])) hini)
  obtain ⟨hx, hb, hml, ho, -⟩ := S
  obtain ⟨-, ⟨cellB, hcB, hoB, hclB⟩, hPc⟩ := hp
  intro T hT X
  obtain ⟨v, vm₁, ⟨U', l2, c2, s2⟩, hW₁, X', ⟨g', mk, t, L, e1, e2, hq, h1, hL, h2, h3⟩, st⟩ := vx_callVW X hx (C := C) (hh := hh) (bytes := bytes) (maxL := maxL) (ret := ret) ho hl hin hse hcode hy hK (by rw [hT]; exact hcB) hoB hclB hg (hsize.trans hml.symm) (argsL := As) (rest := rest) (fun sig h => hn.trans (hlen sig h)) hstack hW (by rw [hb]; exact hdg)
    (fun vm₁ hW₁ => ⟨hf.1, hf.2, hPc (T.setVm vm₁) hT hW₁⟩)
  dsimp only [Pt.U, Pt.locs, Pt.cells, Pt.slots] at X' e1 e2 h1 h2 h3 st
  subst h1; subst h2; subst h3
  exact ⟨v, (T.setVm vm₁).calling g' mk (Value.ref b :: As).toArray, t, U', L, hT, X', hL, e1, e2, hq, st⟩
section
variable {y : MethodName} {bytes cc : ByteArray} {maxL nL mc ms n index : Nat} {ret : Option FieldType} {ws : List Cond} {rm : Room} {Pc : Array Value → State → Prop} {Qc : Array Value → State → Outcome → State → Prop} {XC : String → State → State → Prop} {free : Addr → Prop} {Ts : List Cond} {own C : String} {b : Addr} {As rest : List Value} {g : JFrame}
theorem vx_runVX {hh : List (Nat × Nat × Nat × Nat)} (S : CallFix p m c cc nL s args Ts own) (hM : vx_Met l y ws rm Pc Qc XC mc ms free) (cw : vx_CVW R s args own C index y bytes maxL ret hh ws rm mc ms n) (hp : PreV s H C b Pc As)
    (hg : g.method = m) (hn : As.length = n) (hsize : g.locals.size = nL) (hstack : g.stack = As.reverse ++ .ref b :: rest) (hW : 2 * g.monitorRoom + (rest.map fun v => v.category).sum ≤ 8) (hdg : decode cc g.pc = .ok (.invokevirtual index, 3)) (hf : cells + mc ≤ R.cells ∧ slots + ms ≤ R.slots) :
    vx_Run p l e R s m args below meth c H locs cells slots mc ms g rest (Qc (Value.ref b :: As).toArray) XC free := by
  obtain ⟨⟨hrc, hrs, hfr, hlo, hws, hcw⟩, hcode, hini, hy, hlen, hl, hin, hse⟩ := cw
  have hK : vx_Back l R p e below s args y 3 8 (PreOf R mc ms Pc) (PostOf Qc mc ms free) (vx_Post XC mc ms free) := vx_backW (hh := hh) (bytes := bytes) (maxL := maxL) (ret := ret) hM hp.1 hrc hrs hfr hlo hws hcw (fun a' U hW => word_at hW (Or.inl (by first | rfl | simp [Cond.onTables, Cond.keeps, Cond.steady])) hini)
  obtain ⟨hx, hb, hml, ho, -⟩ := S
  obtain ⟨-, ⟨cellB, hcB, hoB, hclB⟩, hPc⟩ := hp
  intro T hT X
  rcases vx_callVX X hx (C := C) (hh := hh) (bytes := bytes) (maxL := maxL) (ret := ret) ho hl hin hse hcode hy hK (by rw [hT]; exact hcB) hoB hclB hg (hsize.trans hml.symm) (argsL := As) (rest := rest) (fun sig h => hn.trans (hlen sig h)) hstack hW (by rw [hb]; exact hdg)
    (fun vm₁ hW₁ => ⟨hf.1, hf.2, hPc (T.setVm vm₁) hT hW₁⟩) with ⟨v, vm₁, ⟨U', l2, c2, s2⟩, hW₁, X', ⟨g', mk, t, L, e1, e2, hq, h1, hL, h2, h3⟩, st⟩ | ⟨q, vm₁, ⟨U', l2, c2, s2⟩, hW₁, X', ⟨g', mk, t, L, E, ce, e1, e2, hq, hce, hcv, hcl, h1, hL, h2, h3⟩, st⟩
  · dsimp only [Pt.U, Pt.locs, Pt.cells, Pt.slots] at X' e1 e2 h1 h2 h3 st
    subst h1; subst h2; subst h3
    exact Or.inl ⟨v, (T.setVm vm₁).calling g' mk (Value.ref b :: As).toArray, t, U', L, hT, X', hL, e1, e2, hq, st⟩
  · dsimp only [Pt.U, Pt.locs, Pt.cells, Pt.slots] at X' e1 e2 h1 h2 h3 st hcl
    subst h1; subst h2; subst h3
    exact Or.inr ⟨q, (T.setVm vm₁).calling g' mk (Value.ref b :: As).toArray, t, U', L, E, ce, hT, X', hL, e1, e2, hq, hce, hcv, vx_cls hW₁ hcl, st⟩
theorem vx_runSX {hh : List (Nat × Nat × Nat × Nat)} (S : CallFix p m c cc nL s args Ts own) (hM : vx_Met l y ws rm Pc Qc XC mc ms free) (cw : vx_CSW R s args own index y bytes maxL ret hh ws rm mc ms n) (hp : PreS s H Pc As)
    (hg : g.method = m) (hn : As.length = n) (hsize : g.locals.size = nL) (hstack : g.stack = As.reverse ++ rest) (hW : 2 * g.monitorRoom + (rest.map fun v => v.category).sum ≤ 8) (hdg : decode cc g.pc = .ok (.invokestatic index, 3)) (hf : cells + mc ≤ R.cells ∧ slots + ms ≤ R.slots) :
    vx_Run p l e R s m args below meth c H locs cells slots mc ms g rest (Qc As.toArray) XC free := by
  obtain ⟨⟨hrc, hrs, hfr, hlo, hws, hcw⟩, hcode, hini, hy, hlen, hl, hstt⟩ := cw
  have hK : vx_Back l R p e below s args y 3 8 (PreOf R mc ms Pc) (PostOf Qc mc ms free) (vx_Post XC mc ms free) := vx_backW (hh := hh) (bytes := bytes) (maxL := maxL) (ret := ret) hM hp.1 hrc hrs hfr hlo hws hcw (fun a' U hW => word_at hW (Or.inl (by first | rfl | simp [Cond.onTables, Cond.keeps, Cond.steady])) hini)
  obtain ⟨hx, hb, hml, ho, -⟩ := S
  intro T hT X
  rcases vx_callSX X hx (hh := hh) (bytes := bytes) (maxL := maxL) (ret := ret) ho hl hstt hini hcode hy hK hg (hsize.trans hml.symm) (argsL := As) (rest := rest) (fun sig h => hn.trans (hlen sig h)) hstack hW (by rw [hb]; exact hdg)
    (fun vm₁ hW₁ => ⟨hf.1, hf.2, hp.2 (T.setVm vm₁) hT hW₁⟩) with ⟨v, vm₁, ⟨U', l2, c2, s2⟩, hW₁, X', ⟨g', mk, t, L, e1, e2, hq, h1, hL, h2, h3⟩, st⟩ | ⟨q, vm₁, ⟨U', l2, c2, s2⟩, hW₁, X', ⟨g', mk, t, L, E, ce, e1, e2, hq, hce, hcv, hcl, h1, hL, h2, h3⟩, st⟩
  · dsimp only [Pt.U, Pt.locs, Pt.cells, Pt.slots] at X' e1 e2 h1 h2 h3 st
    subst h1; subst h2; subst h3
    exact Or.inl ⟨v, (T.setVm vm₁).calling g' mk As.toArray, t, U', L, hT, X', hL, e1, e2, hq, st⟩
  · dsimp only [Pt.U, Pt.locs, Pt.cells, Pt.slots] at X' e1 e2 h1 h2 h3 st hcl
    subst h1; subst h2; subst h3
    exact Or.inr ⟨q, (T.setVm vm₁).calling g' mk As.toArray, t, U', L, E, ce, hT, X', hL, e1, e2, hq, hce, hcv, vx_cls hW₁ hcl, st⟩
end
end VXH
theorem vx_ofWH {l : Launch} {y : MethodName} {ws ws' : List Cond} {rm : Room} {Pc : Array Value → State → Prop} {Qc : Array Value → State → Outcome → State → Prop} {XC : String → State → State → Prop} {mc ms : Nat} {free : Addr → Prop} {cc : ByteArray} {maxL : Nat} {ret : Option FieldType} {hh : List (Nat × Nat × Nat × Nat)}
    (hy : plainName y.cls = true) (hw : ws = Cond.codeWith y cc maxL ret hh :: ws')
    (body : ∀ p e s m args below meth c s₁, BodyLoose p l y (headSpec ws rm) cc maxL ret e s m args below meth c s₁ → c.maxLocals = maxL → Pc args s →
      W p l e (headSpec ws rm).room s m args below meth c s.heap [] 0 0 (vx_MQ below Qc XC args s mc ms free) (entryFrame m args maxL)) : vx_Met l y ws rm Pc Qc XC mc ms free := by
  refine MetFree.of_bodyS (code := cc) (maxLocals := maxL) (ret := ret) hy ?_ ?_
  · intro args s m h hn
    obtain ⟨m9, meth, c, hn9, h1, h2, h3, h4, -, h5, h6, -⟩ := Cond.codeWith_spec (atoms_spec (ws := ws) h _ (by rw [hw]; exact List.mem_cons_self))
    cases hn.symm.trans hn9
    exact ⟨meth, c, h1, h2, h3, h4, h5, h6⟩
  · intro p e s m args below meth c s₁ B hml hP _
    have hh0 : s₁.heap = s.heap := by rw [B.state]; rfl
    obtain ⟨t, a1, o, b1, b2, b3⟩ := body p e s m args below meth c s₁ B hml hP s₁ hh0 (Stand.of_body B)
    exact ⟨t, o, a1, b1, b2, b3⟩
/-! ===== END ===== -/
end
section
/-! THE TABLES' WORDS, all of one kind: a fact of the machine's state that stays when it warms up -/
def okw : Cond → Bool
  | .arrayClass _ => true
  | .fieldLinkNest .. => true
  | .methodLinkNest .. => true
  | .declares _ => true
  | .castable .. => true
  | .arrayOver _ => true
  | w => w.onTables && w.keeps
def TW : List Cond := lw_tbl.filter okw
theorem tw_in {w : Cond} (h : w ∈ lw_tbl) (o : okw w = true) : w ∈ TW := List.mem_filter.mpr ⟨h, o⟩
theorem tw_at {i : Nat} {w : Cond} (h : lw_tbl[i]? = some w) (o : okw w = true) : w ∈ TW := tw_in (List.mem_of_getElem? h) o
theorem tw_warm {a a' : Array Value} {s U : State} (hW : s.WarmedH U.vm) {w : Cond} (ho : okw w = true) (h : w.before a s = true) : w.before a' U = true := by
  cases w with
  | arrayClass t => exact word_at hW (Or.inr ⟨_, rfl⟩) h
  | fieldLinkNest x i b n d hh => exact va_Nw.use rfl (va_Nw.warmF hW (va_Nw.of rfl h))
  | methodLinkNest x i b hh => exact va_Nw.use rfl (va_Nw.warmM hW (va_Nw.of rfl h))
  | declares x => exact va_Nw.use rfl (va_Nw.warmD hW (va_Nw.of rfl h))
  | castable x y => exact va_Nw.use rfl (va_Nw.warmC hW (va_Nw.of rfl h))
  | arrayOver ty =>
    have h1 : (Cond.arrayOver ty).before a (s.setVm U.vm) = true := by rw [Cond.arrayOver_setVmC hW.alike]; exact h
    exact h1
  | _ => exact word_at hW (Or.inl ho) h
/-- all words, at a state -/
def Tw (U : State) : Prop := ∀ w ∈ TW, w.before #[] U = true
theorem Tw.warm {s U : State} (hW : s.WarmedH U.vm) (h : Tw s) : Tw U := fun w hw => tw_warm hW (List.mem_filter.mp hw).2 (h w hw)
theorem Tw.of {a : Array Value} {s : State} (h : ∀ w ∈ lw_tbl, w.before a s = true) : Tw s := fun w hw => tw_warm (State.WarmedH.refl s) (List.mem_filter.mp hw).2 (h w (List.mem_filter.mp hw).1)
theorem Tw.use {s : State} (h : Tw s) (a : Array Value) : ∀ w ∈ TW, w.before a s = true := fun w hw => tw_warm (State.WarmedH.refl s) (List.mem_filter.mp hw).2 (h w hw)
theorem Tw.same {s U : State} (e : s.vm = U.vm) (h : Tw s) : Tw U := Tw.warm (by rw [← e]; exact State.WarmedH.refl s) h
theorem tw_wsX0 : ∀ w ∈ u_ws RX0 TX0 14, w ∈ TW := by decide +kernel
theorem tw_wsX1 : ∀ w ∈ u_ws RX1 TX1 3, w ∈ TW := by decide +kernel
theorem tw_wsX2 : ∀ w ∈ u_ws RX2 TX2 5, w ∈ TW := by decide +kernel
theorem tw_wsX3 : ∀ w ∈ u_ws RX3 TX3 4, w ∈ TW := by decide +kernel
theorem tw_wsX4 : ∀ w ∈ u_ws RX4 TX4 3, w ∈ TW := by decide +kernel
theorem tw_wsX5 : ∀ w ∈ u_ws RX5 TX5 7, w ∈ TW := by decide +kernel
theorem tw_wsX6 : ∀ w ∈ u_ws RX6 TX6 19, w ∈ TW := by decide +kernel
end
section
/-! THE MEMORY: a number for each slot of each cell -/
abbrev Mem : Type := Nat → Nat → Int32
def ms (M : Mem) (c : Nat) (f : Nat → Int32) : Mem := fun d => if d = c then f else M d
def mw (M : Mem) (c i : Nat) (v : Int32) : Mem := ms M c (upd (M c) i v)
/-- what a cell is: an object (class, slots; a slot: a number, null, or a reference), an array of ints (kind, length), of references, of longs -/
abbrev Ds : Type := (Nat × Nat × (Nat → Option (Option Nat))) ⊕ (Nat × Nat) ⊕ (Nat × Nat × (Nat → Option Nat)) ⊕ Nat
def fv (ad : Nat → Nat) (m : Nat → Int32) (f : Nat → Option (Option Nat)) (k : Nat) : Value := match f k with
  | none => .int (m k)
  | some none => .null
  | some (some j) => .ref (ad j)
def el (dA : Nat → ClassId) (ad : Nat → Nat) (m : Nat → Int32) : Ds → va_E
  | .inl (ci, n, f) => .inr (ci, (List.range n).map (fv ad m f))
  | .inr (.inl (t, n)) => .inl (dA t, n, .inl m)
  | .inr (.inr (.inl (t, n, f))) => .inl (dA t, n, .inr (.inr (.inr (.inr fun k => (f k).map ad))))
  | .inr (.inr (.inr n)) => .inl (dA 3, n, .inr (.inl fun k => (m k).toInt64))
/-- the class tables, the array classes, the region, the three static arrays -/
abbrev GG : Type := va_G × (Nat → ClassId) × (Nat → Prop) × (Nat → Nat)
/-- addresses, what the cells are, which there are -/
abbrev ZZ : Type := (Nat → Nat) × (Nat → Ds) × List Nat
def wv (G : GG) (Z : ZZ) (M : Mem) : va_W := Z.2.2.map fun i => (Z.1 i, el G.2.1 Z.1 (M i) (Z.2.1 i))
def tys (G : GG) : List (ClassId × FieldType) := [(G.2.1 0, .int), (G.2.1 1, .boolean), (G.2.1 2, .char), (G.2.1 3, .long), (G.2.1 4, .array .int), (G.2.1 5, .object RX3), (G.2.1 6, .object RX0)]
def At (Z : ZZ) (i : Nat) (D : Ds) : Prop := i ∈ Z.2.2 ∧ Z.2.1 i = D
def ZOk (G : GG) (Z : ZZ) : Prop := Z.2.2.Nodup ∧ (∀ i ∈ Z.2.2, ∀ j ∈ Z.2.2, Z.1 i = Z.1 j → i = j) ∧ ∀ i ∈ Z.2.2, G.2.2.1 (Z.1 i)
theorem wv_get {G : GG} {Z : ZZ} {M : Mem} {i : Nat} {D : Ds} (h : At Z i D) : ∃ k : Nat, Z.2.2[k]? = some i ∧ (wv G Z M)[k]? = some (Z.1 i, el G.2.1 Z.1 (M i) D) := by
  obtain ⟨h1, rfl⟩ := h
  obtain ⟨k, hk⟩ := List.mem_iff_getElem?.mp h1
  exact ⟨k, hk, by unfold wv; rw [List.getElem?_map, hk]; rfl⟩
theorem map_set {α : Type} (f g : Nat → α) {i : Nat} : ∀ (l : List Nat) (k : Nat), l[k]? = some i → l.Nodup → (∀ j, j ≠ i → g j = f j) → (l.map f).set k (g i) = l.map g
  | [], k, h, _, _ => by simp at h
  | a :: l, 0, h, hn, hg => by
    simp at h; subst h
    rw [List.nodup_cons] at hn
    show g a :: l.map f = g a :: l.map g
    congr 1
    exact List.map_congr_left fun j hj => (hg j (fun e => hn.1 (e ▸ hj))).symm
  | a :: l, k + 1, h, hn, hg => by
    simp at h
    rw [List.nodup_cons] at hn
    have hi : i ∈ l := List.mem_of_getElem? h
    show f a :: (l.map f).set k (g i) = g a :: l.map g
    rw [map_set f g l k h hn.2 hg, hg a (fun e => hn.1 (e ▸ hi))]
theorem wv_set {G : GG} {Z : ZZ} {M : Mem} {i k : Nat} (hz : ZOk G Z) (hk : Z.2.2[k]? = some i) (f : Nat → Int32) : (wv G Z M).set k (Z.1 i, el G.2.1 Z.1 f (Z.2.1 i)) = wv G Z (ms M i f) := by
  unfold wv
  have := map_set (fun j => (Z.1 j, el G.2.1 Z.1 (M j) (Z.2.1 j))) (fun j => (Z.1 j, el G.2.1 Z.1 (ms M i f j) (Z.2.1 j))) Z.2.2 k hk hz.1 (fun j hj => by simp [ms, hj])
  rw [← this]
  simp [ms]
theorem wv_D {G : GG} {Z : ZZ} (hz : ZOk G Z) (M : Mem) : va_D G.2.2.1 (wv G Z M) := by
  obtain ⟨h1, h2, h3⟩ := hz
  unfold wv
  refine ⟨fun i j p q hi hj e => ?_, fun k q hk => ?_⟩
  · rw [List.getElem?_map] at hi hj
    cases a : Z.2.2[i]? with
    | none => rw [a] at hi; cases hi
    | some x =>
      cases b : Z.2.2[j]? with
      | none => rw [b] at hj; cases hj
      | some y =>
        rw [a] at hi; rw [b] at hj
        cases hi; cases hj
        have hxy := h2 x (List.mem_of_getElem? a) y (List.mem_of_getElem? b) e
        subst hxy
        have hl := (List.getElem?_eq_some_iff.mp a).1
        exact (List.getElem?_inj hl h1).mp (a.trans b.symm)
  · rw [List.getElem?_map] at hk
    cases a : Z.2.2[k]? with
    | none => rw [a] at hk; cases hk
    | some x =>
      rw [a] at hk; cases hk
      exact h3 x (List.mem_of_getElem? a)
/-- the statics that the program reads or that a throw carries -/
def sa_first : List Int32 := [12, 12, 5, 3, 1, 0]
def sa_least : List Int32 := [1, 1, 1, 0, 0, 0]
def sa_most : List Int32 := [24, 24, 5, 9, 1, 1]
def Sg (G : GG) (U : State) (H : Heap) : Prop :=
  (va_Z "HandSpans" "SETTING_AT_FIRST" "[I" (.ref (G.2.2.2 0)) G.2.2.1 U H ∧ va_T .int (G.2.2.2 0) 6 (fun k => .int (sa_first.getD k 0)) G.2.2.1 U H) ∧
  (va_Z "HandSpans" "LEAST_SETTING" "[I" (.ref (G.2.2.2 1)) G.2.2.1 U H ∧ va_T .int (G.2.2.2 1) 6 (fun k => .int (sa_least.getD k 0)) G.2.2.1 U H) ∧
  (va_Z "HandSpans" "MOST_SETTING" "[I" (.ref (G.2.2.2 2)) G.2.2.1 U H ∧ va_T .int (G.2.2.2 2) 6 (fun k => .int (sa_most.getD k 0)) G.2.2.1 U H) ∧
  vx_Zq Bundle.tN "UNASSIGNED_STACK" Bundle.steD G.2.2.1 U H ∧ vx_Zq Bundle.tN "SUPPRESSED_SENTINEL" Bundle.listD G.2.2.1 U H
theorem Sg.moved {G : GG} {u U : State} {H : Heap} (hvm : u.vm.Alike U.vm) (h : Sg G u H) : Sg G U H := by
  obtain ⟨⟨a1, a2⟩, ⟨b1, b2⟩, ⟨c1, c2⟩, d, e⟩ := h
  exact ⟨⟨va_Z.moved hvm a1, va_T.moved hvm a2⟩, ⟨va_Z.moved hvm b1, va_T.moved hvm b2⟩, ⟨va_Z.moved hvm c1, va_T.moved hvm c2⟩, vx_Zq.moved hvm d, vx_Zq.moved hvm e⟩
theorem Sg.kept {G : GG} {U : State} {H H1 : Heap} (h : Sg G U H) (hq : ∀ a : Nat, a < H.size → ¬ G.2.2.1 a → H1[a]? = H[a]?) : Sg G U H1 := by
  obtain ⟨⟨a1, a2⟩, ⟨b1, b2⟩, ⟨c1, c2⟩, d, e⟩ := h
  exact ⟨⟨va_Z.kept a1 hq, va_T.kept a2 hq⟩, ⟨va_Z.kept b1 hq, va_T.kept b2 hq⟩, ⟨va_Z.kept c1 hq, va_T.kept c2 hq⟩, vx_Zq.kept d hq, vx_Zq.kept e hq⟩
/-- the world at a state: the memory, the tables, the statics, the words -/
def Wd (G : GG) (Z : ZZ) (M : Mem) (U : State) : Prop := va_P G.1 vwCl (wv G Z M) U.heap ∧ va_K G.1 vwCl (tys G) U ∧ (∀ q : Nat, U.heap.size ≤ q → G.2.2.1 q) ∧ Sg G U U.heap ∧ Tw U
theorem Wd.blind {G : GG} {Z : ZZ} {M : Mem} (As : List Value) : FrameBlind (va_Pc As (Wd G Z M)) := by
  intro a U g mk ⟨h0, h1, h2, h3, h4, h5⟩
  exact ⟨h0, h1, va_K.moved (u := U) (U := U.calling g mk a) (Vm.Alike.refl U.vm) h2, h3, Sg.moved (u := U) (U := U.calling g mk a) (Vm.Alike.refl U.vm) h4, Tw.same (s := U) (U := U.calling g mk a) rfl h5⟩
/-! THE PLACE IN A METHOD -/
abbrev XX : Type := Program × Launch × Env × Room × State × MethodId × Array Value × List Frame × Method × Code × Nat
abbrev xp (X : XX) : Program := X.1
abbrev xl (X : XX) : Launch := X.2.1
abbrev xe (X : XX) : Env := X.2.2.1
abbrev xR (X : XX) : Room := X.2.2.2.1
abbrev xs (X : XX) : State := X.2.2.2.2.1
abbrev xm (X : XX) : MethodId := X.2.2.2.2.2.1
abbrev xa (X : XX) : Array Value := X.2.2.2.2.2.2.1
abbrev xb (X : XX) : List Frame := X.2.2.2.2.2.2.2.1
abbrev xM (X : XX) : Method := X.2.2.2.2.2.2.2.2.1
abbrev xc (X : XX) : Code := X.2.2.2.2.2.2.2.2.2.1
abbrev xn (X : XX) : Nat := X.2.2.2.2.2.2.2.2.2.2
abbrev WX (X : XX) (H : Heap) (locs : List Loc) (k n : Nat) (Q : State → Prop) (pc : Nat) (ls : Array Slot) (st : List Value) : Prop :=
  W (xp X) (xl X) (xe X) (xR X) (xs X) (xm X) (xa X) (xb X) (xM X) (xc X) H locs k n Q (F0 (xm X) pc ls st)
def V (X : XX) (G : GG) (Z : ZZ) (M : Mem) (k n : Nat) (Q : State → Prop) (pc : Nat) (L : List (Nat × Value)) (st : List Value) : Prop :=
  ∀ (H : Heap) (locs : List Loc) (ls : Array Slot), va_P G.1 vwCl (wv G Z M) H → va_S G.2.2.1 (xs X).heap H locs → lv_has ls (xn X) L → WX X H locs k n Q pc ls st
def rmd (d mc ms : Nat) : Room := { frames := d, cells := mc, slots := ms, locals := 40 * d }
/-- what holds all along a body -/
def Cx (X : XX) (G : GG) (own : String) (cc : ByteArray) (ret : Option FieldType) (d mc ms nL : Nat) : Prop :=
  ((xp X).tables.exec = Jvm.exec ∧ (xc X).code = cc ∧ (xM X).sig.returnType = ret ∧ (xc X).maxLocals = nL ∧ xn X = nL) ∧ (xs X).vm.findClass own = some (xm X).cls ∧ Tw (xs X) ∧ (xM X).locks = false ∧
  va_K G.1 vwCl (tys G) (xs X) ∧ (∀ q : Nat, (xs X).heap.size ≤ q → G.2.2.1 q) ∧ Sg G (xs X) (xs X).heap ∧ (xl X).stackTraces = false ∧ xR X = rmd d mc ms
theorem Wd.mk {X : XX} {G : GG} {Z : ZZ} {M : Mem} {own : String} {cc : ByteArray} {ret : Option FieldType} {d mc ms nL : Nat} (hC : Cx X G own cc ret d mc ms nL) {H : Heap} {locs : List Loc} (hP : va_P G.1 vwCl (wv G Z M) H) (hS : va_S G.2.2.1 (xs X).heap H locs) {U : State} (hU : U.heap = H) (hW : (xs X).WarmedH U.vm) : Wd G Z M U := by
  obtain ⟨-, -, h2, -, h4, h5, h6, -⟩ := hC
  subst hU
  exact ⟨hP, va_K.moved hW.alike h4, fun q hq => h5 q (Nat.le_trans hS.1 hq), Sg.moved hW.alike (h6.kept hS.2.1), h2.warm hW⟩
end
section
section RR
variable {X : XX} {G : GG} {Z : ZZ} {M : Mem} {k n : Nat} {Q : State → Prop} {pc : Nat} {L : List (Nat × Value)} {rest : List Value} {own : String} {cc : ByteArray} {ret : Option FieldType} {d mc ms nL : Nat}
theorem r_iconst {c : Int} {v : Int32} (hC : Cx X G own cc ret d mc ms nL) (hdg : decode cc pc = .ok (.iconst c, 1)) (hv : Int32.ofInt c = v) (kk : V X G Z M k n Q (pc + 1) L (.int v :: rest)) : V X G Z M k n Q pc L rest := by
  obtain ⟨⟨hx, hb, hr, hml, hn⟩, hown, htw, hlk, hK, hA, hsg, hst, hR⟩ := hC
  intro H locs ls hP hS hl
  exact lv_iconst hx hb hdg hv (kk H locs ls hP hS hl)
theorem r_bipush {c : Int} {v : Int32} (hC : Cx X G own cc ret d mc ms nL) (hdg : decode cc pc = .ok (.bipush c, 2)) (hv : (Int8.ofInt c).toInt32 = v) (kk : V X G Z M k n Q (pc + 2) L (.int v :: rest)) : V X G Z M k n Q pc L rest := by
  obtain ⟨⟨hx, hb, hr, hml, hn⟩, hown, htw, hlk, hK, hA, hsg, hst, hR⟩ := hC
  intro H locs ls hP hS hl
  exact lv_bipush hx hb hdg hv (kk H locs ls hP hS hl)
theorem r_sipush {c : Int} {v : Int32} (hC : Cx X G own cc ret d mc ms nL) (hdg : decode cc pc = .ok (.sipush c, 3)) (hv : (Int16.ofInt c).toInt32 = v) (kk : V X G Z M k n Q (pc + 3) L (.int v :: rest)) : V X G Z M k n Q pc L rest := by
  obtain ⟨⟨hx, hb, hr, hml, hn⟩, hown, htw, hlk, hK, hA, hsg, hst, hR⟩ := hC
  intro H locs ls hP hS hl
  exact lv_sipush hx hb hdg hv (kk H locs ls hP hS hl)
theorem r_lconst {c : Fin 2} {v : Int64} (hC : Cx X G own cc ret d mc ms nL) (hdg : decode cc pc = .ok (.lconst c, 1)) (hv : Int64.ofNat (c : Nat) = v) (kk : V X G Z M k n Q (pc + 1) L (.long v :: rest)) : V X G Z M k n Q pc L rest := by
  obtain ⟨⟨hx, hb, hr, hml, hn⟩, hown, htw, hlk, hK, hA, hsg, hst, hR⟩ := hC
  intro H locs ls hP hS hl
  exact lv_lconst hx hb hdg hv (kk H locs ls hP hS hl)
theorem r_ldc {i : Nat} {v : Int32} (hC : Cx X G own cc ret d mc ms nL) (hdg : decode cc pc = .ok (.ldc i, 2)) (hw : Cond.constant own i v ∈ TW) (kk : V X G Z M k n Q (pc + 2) L (.int v :: rest)) : V X G Z M k n Q pc L rest := by
  obtain ⟨⟨hx, hb, hr, hml, hn⟩, hown, htw, hlk, hK, hA, hsg, hst, hR⟩ := hC
  intro H locs ls hP hS hl
  exact lv_ldc hx hb hown (htw.use _ _ hw) hdg (kk H locs ls hP hS hl)
theorem r_ldcw {i : Nat} {v : Int32} (hC : Cx X G own cc ret d mc ms nL) (hdg : decode cc pc = .ok (.ldc_w i, 3)) (hw : Cond.constant own i v ∈ TW) (kk : V X G Z M k n Q (pc + 3) L (.int v :: rest)) : V X G Z M k n Q pc L rest := by
  obtain ⟨⟨hx, hb, hr, hml, hn⟩, hown, htw, hlk, hK, hA, hsg, hst, hR⟩ := hC
  intro H locs ls hP hS hl
  exact lv_ldcw hx hb hown (htw.use _ _ hw) hdg (kk H locs ls hP hS hl)
theorem r_ldc2 {i : Nat} {v : Int64} (hC : Cx X G own cc ret d mc ms nL) (hdg : decode cc pc = .ok (.ldc2_w i, 3)) (hw : Cond.constantLong own i v ∈ TW) (kk : V X G Z M k n Q (pc + 3) L (.long v :: rest)) : V X G Z M k n Q pc L rest := by
  obtain ⟨⟨hx, hb, hr, hml, hn⟩, hown, htw, hlk, hK, hA, hsg, hst, hR⟩ := hC
  intro H locs ls hP hS hl
  exact lv_ldc2 hx hb hown (htw.use _ _ hw) hdg (kk H locs ls hP hS hl)
theorem r_iload_n {c : Fin 4} {x : Int32} (hC : Cx X G own cc ret d mc ms nL) (hdg : decode cc pc = .ok (.iload_n c, 1)) (j : Nat) (hj : L[j]? = some ((c : Nat), .int x)) (kk : V X G Z M k n Q (pc + 1) L (.int x :: rest)) : V X G Z M k n Q pc L rest := by
  obtain ⟨⟨hx, hb, hr, hml, hn⟩, hown, htw, hlk, hK, hA, hsg, hst, hR⟩ := hC
  intro H locs ls hP hS hl
  exact lv_iload_n hx hb hdg rfl (lv_at hl j hj) (kk H locs ls hP hS hl)
theorem r_iload {c : Nat} {x : Int32} (hC : Cx X G own cc ret d mc ms nL) (hdg : decode cc pc = .ok (.iload c, 2)) (j : Nat) (hj : L[j]? = some (c, .int x)) (kk : V X G Z M k n Q (pc + 2) L (.int x :: rest)) : V X G Z M k n Q pc L rest := by
  obtain ⟨⟨hx, hb, hr, hml, hn⟩, hown, htw, hlk, hK, hA, hsg, hst, hR⟩ := hC
  intro H locs ls hP hS hl
  exact lv_iload hx hb hdg (lv_at hl j hj) (kk H locs ls hP hS hl)
theorem r_lload_n {c : Fin 4} {x : Int64} (hC : Cx X G own cc ret d mc ms nL) (hdg : decode cc pc = .ok (.lload_n c, 1)) (j : Nat) (hj : L[j]? = some ((c : Nat), .long x)) (kk : V X G Z M k n Q (pc + 1) L (.long x :: rest)) : V X G Z M k n Q pc L rest := by
  obtain ⟨⟨hx, hb, hr, hml, hn⟩, hown, htw, hlk, hK, hA, hsg, hst, hR⟩ := hC
  intro H locs ls hP hS hl
  exact lv_lload_n hx hb hdg rfl (lv_at hl j hj) (kk H locs ls hP hS hl)
theorem r_lload {c : Nat} {x : Int64} (hC : Cx X G own cc ret d mc ms nL) (hdg : decode cc pc = .ok (.lload c, 2)) (j : Nat) (hj : L[j]? = some (c, .long x)) (kk : V X G Z M k n Q (pc + 2) L (.long x :: rest)) : V X G Z M k n Q pc L rest := by
  obtain ⟨⟨hx, hb, hr, hml, hn⟩, hown, htw, hlk, hK, hA, hsg, hst, hR⟩ := hC
  intro H locs ls hP hS hl
  exact lv_lload hx hb hdg (lv_at hl j hj) (kk H locs ls hP hS hl)
theorem r_aload_n {c : Fin 4} {x : Nat} (hC : Cx X G own cc ret d mc ms nL) (hdg : decode cc pc = .ok (.aload_n c, 1)) (j : Nat) (hj : L[j]? = some ((c : Nat), .ref x)) (kk : V X G Z M k n Q (pc + 1) L (.ref x :: rest)) : V X G Z M k n Q pc L rest := by
  obtain ⟨⟨hx, hb, hr, hml, hn⟩, hown, htw, hlk, hK, hA, hsg, hst, hR⟩ := hC
  intro H locs ls hP hS hl
  exact lv_aload_n hx hb hdg rfl (lv_at hl j hj) (kk H locs ls hP hS hl)
theorem r_aload {c : Nat} {x : Nat} (hC : Cx X G own cc ret d mc ms nL) (hdg : decode cc pc = .ok (.aload c, 2)) (j : Nat) (hj : L[j]? = some (c, .ref x)) (kk : V X G Z M k n Q (pc + 2) L (.ref x :: rest)) : V X G Z M k n Q pc L rest := by
  obtain ⟨⟨hx, hb, hr, hml, hn⟩, hown, htw, hlk, hK, hA, hsg, hst, hR⟩ := hC
  intro H locs ls hP hS hl
  exact lv_aload hx hb hdg (lv_at hl j hj) (kk H locs ls hP hS hl)
theorem r_istore_n {c : Fin 4} {x : Int32} {L' : List (Nat × Value)} (hC : Cx X G own cc ret d mc ms nL) (hdg : decode cc pc = .ok (.istore_n c, 1)) (hc : ((c : Nat) < nL)) (hL : ((c : Nat), Value.int x) :: L.filter (fun q => !(q.1 == (c : Nat)) && !(q.1 + 1 == (c : Nat) && q.2.category == 2)) = L') (kk : V X G Z M k n Q (pc + 1) L' rest) : V X G Z M k n Q pc L (.int x :: rest) := by
  obtain ⟨⟨hx, hb, hr, hml, hn⟩, hown, htw, hlk, hK, hA, hsg, hst, hR⟩ := hC
  intro H locs ls hP hS hl
  exact lv_istore_n hx hb hdg rfl hl (by rw [hn]; exact hc) hL (fun ls' hl' => kk H locs ls' hP hS hl')
theorem r_istore {c : Nat} {x : Int32} {L' : List (Nat × Value)} (hC : Cx X G own cc ret d mc ms nL) (hdg : decode cc pc = .ok (.istore c, 2)) (hc : (c < nL)) (hL : (c, Value.int x) :: L.filter (fun q => !(q.1 == c) && !(q.1 + 1 == c && q.2.category == 2)) = L') (kk : V X G Z M k n Q (pc + 2) L' rest) : V X G Z M k n Q pc L (.int x :: rest) := by
  obtain ⟨⟨hx, hb, hr, hml, hn⟩, hown, htw, hlk, hK, hA, hsg, hst, hR⟩ := hC
  intro H locs ls hP hS hl
  exact lv_istore hx hb hdg hl (by rw [hn]; exact hc) hL (fun ls' hl' => kk H locs ls' hP hS hl')
theorem r_astore_n {c : Fin 4} {x : Nat} {L' : List (Nat × Value)} (hC : Cx X G own cc ret d mc ms nL) (hdg : decode cc pc = .ok (.astore_n c, 1)) (hc : ((c : Nat) < nL)) (hL : ((c : Nat), Value.ref x) :: L.filter (fun q => !(q.1 == (c : Nat)) && !(q.1 + 1 == (c : Nat) && q.2.category == 2)) = L') (kk : V X G Z M k n Q (pc + 1) L' rest) : V X G Z M k n Q pc L (.ref x :: rest) := by
  obtain ⟨⟨hx, hb, hr, hml, hn⟩, hown, htw, hlk, hK, hA, hsg, hst, hR⟩ := hC
  intro H locs ls hP hS hl
  exact lv_astore_n hx hb hdg rfl hl (by rw [hn]; exact hc) hL (fun ls' hl' => kk H locs ls' hP hS hl')
theorem r_astore {c : Nat} {x : Nat} {L' : List (Nat × Value)} (hC : Cx X G own cc ret d mc ms nL) (hdg : decode cc pc = .ok (.astore c, 2)) (hc : (c < nL)) (hL : (c, Value.ref x) :: L.filter (fun q => !(q.1 == c) && !(q.1 + 1 == c && q.2.category == 2)) = L') (kk : V X G Z M k n Q (pc + 2) L' rest) : V X G Z M k n Q pc L (.ref x :: rest) := by
  obtain ⟨⟨hx, hb, hr, hml, hn⟩, hown, htw, hlk, hK, hA, hsg, hst, hR⟩ := hC
  intro H locs ls hP hS hl
  exact lv_astore hx hb hdg hl (by rw [hn]; exact hc) hL (fun ls' hl' => kk H locs ls' hP hS hl')
theorem r_lstore_n {c : Fin 4} {x : Int64} {L' : List (Nat × Value)} (hC : Cx X G own cc ret d mc ms nL) (hdg : decode cc pc = .ok (.lstore_n c, 1)) (hc : ((c : Nat) + 1 < nL)) (hL : ((c : Nat), Value.long x) :: L.filter (fun q => !(q.1 == (c : Nat)) && (!(q.1 == (c : Nat) + 1) && !(q.1 + 1 == (c : Nat) && q.2.category == 2))) = L') (kk : V X G Z M k n Q (pc + 1) L' rest) : V X G Z M k n Q pc L (.long x :: rest) := by
  obtain ⟨⟨hx, hb, hr, hml, hn⟩, hown, htw, hlk, hK, hA, hsg, hst, hR⟩ := hC
  intro H locs ls hP hS hl
  exact lv_lstore_n hx hb hdg rfl hl (by rw [hn]; exact hc) hL (fun ls' hl' => kk H locs ls' hP hS hl')
theorem r_lstore {c : Nat} {x : Int64} {L' : List (Nat × Value)} (hC : Cx X G own cc ret d mc ms nL) (hdg : decode cc pc = .ok (.lstore c, 2)) (hc : (c + 1 < nL)) (hL : (c, Value.long x) :: L.filter (fun q => !(q.1 == c) && (!(q.1 == c + 1) && !(q.1 + 1 == c && q.2.category == 2))) = L') (kk : V X G Z M k n Q (pc + 2) L' rest) : V X G Z M k n Q pc L (.long x :: rest) := by
  obtain ⟨⟨hx, hb, hr, hml, hn⟩, hown, htw, hlk, hK, hA, hsg, hst, hR⟩ := hC
  intro H locs ls hP hS hl
  exact lv_lstore hx hb hdg hl (by rw [hn]; exact hc) hL (fun ls' hl' => kk H locs ls' hP hS hl')
theorem r_iinc {c : Nat} {a : Int} {x v : Int32} {L' : List (Nat × Value)} (hC : Cx X G own cc ret d mc ms nL) (hdg : decode cc pc = .ok (.iinc c a, 3)) (j : Nat) (hj : L[j]? = some (c, .int x)) (hv : x + Int32.ofInt a = v) (hc : c < nL) (hL : (c, Value.int v) :: L.filter (fun q => !(q.1 == c) && !(q.1 + 1 == c && q.2.category == 2)) = L') (kk : V X G Z M k n Q (pc + 3) L' rest) : V X G Z M k n Q pc L rest := by
  obtain ⟨⟨hx, hb, hr, hml, hn⟩, hown, htw, hlk, hK, hA, hsg, hst, hR⟩ := hC
  intro H locs ls hP hS hl
  exact lv_iinc hx hb hdg hl hj hv (by rw [hn]; exact hc) hL (fun ls' hl' => kk H locs ls' hP hS hl')
theorem r_iadd {x y : Int32} (hC : Cx X G own cc ret d mc ms nL) (hdg : decode cc pc = .ok (.iadd, 1)) (kk : V X G Z M k n Q (pc + 1) L (.int (x + y) :: rest)) : V X G Z M k n Q pc L (.int y :: .int x :: rest) := by
  obtain ⟨⟨hx, hb, hr, hml, hn⟩, hown, htw, hlk, hK, hA, hsg, hst, hR⟩ := hC
  intro H locs ls hP hS hl
  exact lv_iadd hx hb hdg (kk H locs ls hP hS hl)
theorem r_isub {x y : Int32} (hC : Cx X G own cc ret d mc ms nL) (hdg : decode cc pc = .ok (.isub, 1)) (kk : V X G Z M k n Q (pc + 1) L (.int (x - y) :: rest)) : V X G Z M k n Q pc L (.int y :: .int x :: rest) := by
  obtain ⟨⟨hx, hb, hr, hml, hn⟩, hown, htw, hlk, hK, hA, hsg, hst, hR⟩ := hC
  intro H locs ls hP hS hl
  exact lv_isub hx hb hdg (kk H locs ls hP hS hl)
theorem r_imul {x y : Int32} (hC : Cx X G own cc ret d mc ms nL) (hdg : decode cc pc = .ok (.imul, 1)) (kk : V X G Z M k n Q (pc + 1) L (.int (x * y) :: rest)) : V X G Z M k n Q pc L (.int y :: .int x :: rest) := by
  obtain ⟨⟨hx, hb, hr, hml, hn⟩, hown, htw, hlk, hK, hA, hsg, hst, hR⟩ := hC
  intro H locs ls hP hS hl
  exact lv_imul hx hb hdg (kk H locs ls hP hS hl)
theorem r_iand {x y : Int32} (hC : Cx X G own cc ret d mc ms nL) (hdg : decode cc pc = .ok (.iand, 1)) (kk : V X G Z M k n Q (pc + 1) L (.int (x &&& y) :: rest)) : V X G Z M k n Q pc L (.int y :: .int x :: rest) := by
  obtain ⟨⟨hx, hb, hr, hml, hn⟩, hown, htw, hlk, hK, hA, hsg, hst, hR⟩ := hC
  intro H locs ls hP hS hl
  exact lv_iand hx hb hdg (kk H locs ls hP hS hl)
theorem r_ior {x y : Int32} (hC : Cx X G own cc ret d mc ms nL) (hdg : decode cc pc = .ok (.ior, 1)) (kk : V X G Z M k n Q (pc + 1) L (.int (x ||| y) :: rest)) : V X G Z M k n Q pc L (.int y :: .int x :: rest) := by
  obtain ⟨⟨hx, hb, hr, hml, hn⟩, hown, htw, hlk, hK, hA, hsg, hst, hR⟩ := hC
  intro H locs ls hP hS hl
  exact lv_ior hx hb hdg (kk H locs ls hP hS hl)
theorem r_ixor {x y : Int32} (hC : Cx X G own cc ret d mc ms nL) (hdg : decode cc pc = .ok (.ixor, 1)) (kk : V X G Z M k n Q (pc + 1) L (.int (x ^^^ y) :: rest)) : V X G Z M k n Q pc L (.int y :: .int x :: rest) := by
  obtain ⟨⟨hx, hb, hr, hml, hn⟩, hown, htw, hlk, hK, hA, hsg, hst, hR⟩ := hC
  intro H locs ls hP hS hl
  exact lv_ixor hx hb hdg (kk H locs ls hP hS hl)
theorem r_ishl {x y : Int32} (hC : Cx X G own cc ret d mc ms nL) (hdg : decode cc pc = .ok (.ishl, 1)) (kk : V X G Z M k n Q (pc + 1) L (.int (x <<< (y &&& 31)) :: rest)) : V X G Z M k n Q pc L (.int y :: .int x :: rest) := by
  obtain ⟨⟨hx, hb, hr, hml, hn⟩, hown, htw, hlk, hK, hA, hsg, hst, hR⟩ := hC
  intro H locs ls hP hS hl
  exact lv_ishl hx hb hdg (kk H locs ls hP hS hl)
theorem r_ishr {x y : Int32} (hC : Cx X G own cc ret d mc ms nL) (hdg : decode cc pc = .ok (.ishr, 1)) (kk : V X G Z M k n Q (pc + 1) L (.int (x >>> (y &&& 31)) :: rest)) : V X G Z M k n Q pc L (.int y :: .int x :: rest) := by
  obtain ⟨⟨hx, hb, hr, hml, hn⟩, hown, htw, hlk, hK, hA, hsg, hst, hR⟩ := hC
  intro H locs ls hP hS hl
  exact lv_ishr hx hb hdg (kk H locs ls hP hS hl)
theorem r_iushr {x y : Int32} (hC : Cx X G own cc ret d mc ms nL) (hdg : decode cc pc = .ok (.iushr, 1)) (kk : V X G Z M k n Q (pc + 1) L (.int ((x.toUInt32 >>> (y.toUInt32 &&& Int32.toUInt32 31)).toInt32) :: rest)) : V X G Z M k n Q pc L (.int y :: .int x :: rest) := by
  obtain ⟨⟨hx, hb, hr, hml, hn⟩, hown, htw, hlk, hK, hA, hsg, hst, hR⟩ := hC
  intro H locs ls hP hS hl
  exact lv_iushr hx hb hdg rfl (kk H locs ls hP hS hl)
theorem r_idiv {x y : Int32} (hC : Cx X G own cc ret d mc ms nL) (hdg : decode cc pc = .ok (.idiv, 1)) (hne : ¬ y = 0) (kk : V X G Z M k n Q (pc + 1) L (.int (x / y) :: rest)) : V X G Z M k n Q pc L (.int y :: .int x :: rest) := by
  obtain ⟨⟨hx, hb, hr, hml, hn⟩, hown, htw, hlk, hK, hA, hsg, hst, hR⟩ := hC
  intro H locs ls hP hS hl
  exact lv_idiv hx hb hdg hne (kk H locs ls hP hS hl)
theorem r_irem {x y : Int32} (hC : Cx X G own cc ret d mc ms nL) (hdg : decode cc pc = .ok (.irem, 1)) (hne : ¬ y = 0) (kk : V X G Z M k n Q (pc + 1) L (.int (x - x / y * y) :: rest)) : V X G Z M k n Q pc L (.int y :: .int x :: rest) := by
  obtain ⟨⟨hx, hb, hr, hml, hn⟩, hown, htw, hlk, hK, hA, hsg, hst, hR⟩ := hC
  intro H locs ls hP hS hl
  exact lv_irem hx hb hdg hne (kk H locs ls hP hS hl)
theorem r_ineg {x : Int32} (hC : Cx X G own cc ret d mc ms nL) (hdg : decode cc pc = .ok (.ineg, 1)) (kk : V X G Z M k n Q (pc + 1) L (.int (-x) :: rest)) : V X G Z M k n Q pc L (.int x :: rest) := by
  obtain ⟨⟨hx, hb, hr, hml, hn⟩, hown, htw, hlk, hK, hA, hsg, hst, hR⟩ := hC
  intro H locs ls hP hS hl
  exact lv_ineg hx hb hdg (kk H locs ls hP hS hl)
theorem r_ladd {x y : Int64} (hC : Cx X G own cc ret d mc ms nL) (hdg : decode cc pc = .ok (.ladd, 1)) (kk : V X G Z M k n Q (pc + 1) L (.long (x + y) :: rest)) : V X G Z M k n Q pc L (.long y :: .long x :: rest) := by
  obtain ⟨⟨hx, hb, hr, hml, hn⟩, hown, htw, hlk, hK, hA, hsg, hst, hR⟩ := hC
  intro H locs ls hP hS hl
  exact lv_ladd hx hb hdg (kk H locs ls hP hS hl)
theorem r_lsub {x y : Int64} (hC : Cx X G own cc ret d mc ms nL) (hdg : decode cc pc = .ok (.lsub, 1)) (kk : V X G Z M k n Q (pc + 1) L (.long (x - y) :: rest)) : V X G Z M k n Q pc L (.long y :: .long x :: rest) := by
  obtain ⟨⟨hx, hb, hr, hml, hn⟩, hown, htw, hlk, hK, hA, hsg, hst, hR⟩ := hC
  intro H locs ls hP hS hl
  exact lv_lsub hx hb hdg (kk H locs ls hP hS hl)
theorem r_lmul {x y : Int64} (hC : Cx X G own cc ret d mc ms nL) (hdg : decode cc pc = .ok (.lmul, 1)) (kk : V X G Z M k n Q (pc + 1) L (.long (x * y) :: rest)) : V X G Z M k n Q pc L (.long y :: .long x :: rest) := by
  obtain ⟨⟨hx, hb, hr, hml, hn⟩, hown, htw, hlk, hK, hA, hsg, hst, hR⟩ := hC
  intro H locs ls hP hS hl
  exact lv_lmul hx hb hdg (kk H locs ls hP hS hl)
theorem r_land {x y : Int64} (hC : Cx X G own cc ret d mc ms nL) (hdg : decode cc pc = .ok (.land, 1)) (kk : V X G Z M k n Q (pc + 1) L (.long (x &&& y) :: rest)) : V X G Z M k n Q pc L (.long y :: .long x :: rest) := by
  obtain ⟨⟨hx, hb, hr, hml, hn⟩, hown, htw, hlk, hK, hA, hsg, hst, hR⟩ := hC
  intro H locs ls hP hS hl
  exact lv_land hx hb hdg (kk H locs ls hP hS hl)
theorem r_lor {x y : Int64} (hC : Cx X G own cc ret d mc ms nL) (hdg : decode cc pc = .ok (.lor, 1)) (kk : V X G Z M k n Q (pc + 1) L (.long (x ||| y) :: rest)) : V X G Z M k n Q pc L (.long y :: .long x :: rest) := by
  obtain ⟨⟨hx, hb, hr, hml, hn⟩, hown, htw, hlk, hK, hA, hsg, hst, hR⟩ := hC
  intro H locs ls hP hS hl
  exact lv_lor hx hb hdg (kk H locs ls hP hS hl)
theorem r_lxor {x y : Int64} (hC : Cx X G own cc ret d mc ms nL) (hdg : decode cc pc = .ok (.lxor, 1)) (kk : V X G Z M k n Q (pc + 1) L (.long (x ^^^ y) :: rest)) : V X G Z M k n Q pc L (.long y :: .long x :: rest) := by
  obtain ⟨⟨hx, hb, hr, hml, hn⟩, hown, htw, hlk, hK, hA, hsg, hst, hR⟩ := hC
  intro H locs ls hP hS hl
  exact lv_lxor hx hb hdg (kk H locs ls hP hS hl)
theorem r_ldiv {x y : Int64} (hC : Cx X G own cc ret d mc ms nL) (hdg : decode cc pc = .ok (.ldiv, 1)) (hne : ¬ y = 0) (kk : V X G Z M k n Q (pc + 1) L (.long (x / y) :: rest)) : V X G Z M k n Q pc L (.long y :: .long x :: rest) := by
  obtain ⟨⟨hx, hb, hr, hml, hn⟩, hown, htw, hlk, hK, hA, hsg, hst, hR⟩ := hC
  intro H locs ls hP hS hl
  exact lv_ldiv hx hb hdg hne (kk H locs ls hP hS hl)
theorem r_lrem {x y : Int64} (hC : Cx X G own cc ret d mc ms nL) (hdg : decode cc pc = .ok (.lrem, 1)) (hne : ¬ y = 0) (kk : V X G Z M k n Q (pc + 1) L (.long (x - x / y * y) :: rest)) : V X G Z M k n Q pc L (.long y :: .long x :: rest) := by
  obtain ⟨⟨hx, hb, hr, hml, hn⟩, hown, htw, hlk, hK, hA, hsg, hst, hR⟩ := hC
  intro H locs ls hP hS hl
  exact lv_lrem hx hb hdg hne (kk H locs ls hP hS hl)
theorem r_lshl {x : Int64} {y : Int32} (hC : Cx X G own cc ret d mc ms nL) (hdg : decode cc pc = .ok (.lshl, 1)) (kk : V X G Z M k n Q (pc + 1) L (.long (x <<< (y.toInt64 &&& 63)) :: rest)) : V X G Z M k n Q pc L (.int y :: .long x :: rest) := by
  obtain ⟨⟨hx, hb, hr, hml, hn⟩, hown, htw, hlk, hK, hA, hsg, hst, hR⟩ := hC
  intro H locs ls hP hS hl
  exact lv_lshl hx hb hdg rfl (kk H locs ls hP hS hl)
theorem r_lushr {x : Int64} {y : Int32} (hC : Cx X G own cc ret d mc ms nL) (hdg : decode cc pc = .ok (.lushr, 1)) (kk : V X G Z M k n Q (pc + 1) L (.long ((x.toUInt64 >>> (y.toInt64.toUInt64 &&& Int64.toUInt64 63)).toInt64) :: rest)) : V X G Z M k n Q pc L (.int y :: .long x :: rest) := by
  obtain ⟨⟨hx, hb, hr, hml, hn⟩, hown, htw, hlk, hK, hA, hsg, hst, hR⟩ := hC
  intro H locs ls hP hS hl
  exact lv_lushr hx hb hdg rfl (kk H locs ls hP hS hl)
theorem r_lcmp {x y : Int64} (hC : Cx X G own cc ret d mc ms nL) (hdg : decode cc pc = .ok (.lcmp, 1)) (kk : V X G Z M k n Q (pc + 1) L (.int (lg_cmp x y) :: rest)) : V X G Z M k n Q pc L (.long y :: .long x :: rest) := by
  obtain ⟨⟨hx, hb, hr, hml, hn⟩, hown, htw, hlk, hK, hA, hsg, hst, hR⟩ := hC
  intro H locs ls hP hS hl
  exact W.lcmp hx hb hdg (kk H locs ls hP hS hl)
theorem r_i2l {x : Int32} (hC : Cx X G own cc ret d mc ms nL) (hdg : decode cc pc = .ok (.i2l, 1)) (kk : V X G Z M k n Q (pc + 1) L (.long x.toInt64 :: rest)) : V X G Z M k n Q pc L (.int x :: rest) := by
  obtain ⟨⟨hx, hb, hr, hml, hn⟩, hown, htw, hlk, hK, hA, hsg, hst, hR⟩ := hC
  intro H locs ls hP hS hl
  exact lv_i2l hx hb hdg rfl (kk H locs ls hP hS hl)
theorem r_l2i {x : Int64} (hC : Cx X G own cc ret d mc ms nL) (hdg : decode cc pc = .ok (.l2i, 1)) (kk : V X G Z M k n Q (pc + 1) L (.int x.toInt32 :: rest)) : V X G Z M k n Q pc L (.long x :: rest) := by
  obtain ⟨⟨hx, hb, hr, hml, hn⟩, hown, htw, hlk, hK, hA, hsg, hst, hR⟩ := hC
  intro H locs ls hP hS hl
  exact lv_l2i hx hb hdg rfl (kk H locs ls hP hS hl)
theorem r_i2c {x : Int32} (hC : Cx X G own cc ret d mc ms nL) (hdg : decode cc pc = .ok (.i2c, 1)) (kk : V X G Z M k n Q (pc + 1) L (.int ((x.toUInt32 % 65536).toInt32) :: rest)) : V X G Z M k n Q pc L (.int x :: rest) := by
  obtain ⟨⟨hx, hb, hr, hml, hn⟩, hown, htw, hlk, hK, hA, hsg, hst, hR⟩ := hC
  intro H locs ls hP hS hl
  exact lv_i2c hx hb hdg rfl (kk H locs ls hP hS hl)
theorem r_dup {v : Value} (hC : Cx X G own cc ret d mc ms nL) (hdg : decode cc pc = .ok (.dup, 1)) (hv : v.category = 1) (kk : V X G Z M k n Q (pc + 1) L (v :: v :: rest)) : V X G Z M k n Q pc L (v :: rest) := by
  obtain ⟨⟨hx, hb, hr, hml, hn⟩, hown, htw, hlk, hK, hA, hsg, hst, hR⟩ := hC
  intro H locs ls hP hS hl
  exact lv_dup hx hb hdg hv (kk H locs ls hP hS hl)
theorem r_pop {v : Value} (hC : Cx X G own cc ret d mc ms nL) (hdg : decode cc pc = .ok (.pop, 1)) (hv : v.category = 1) (kk : V X G Z M k n Q (pc + 1) L rest) : V X G Z M k n Q pc L (v :: rest) := by
  obtain ⟨⟨hx, hb, hr, hml, hn⟩, hown, htw, hlk, hK, hA, hsg, hst, hR⟩ := hC
  intro H locs ls hP hS hl
  exact lv_pop hx hb hdg hv (kk H locs ls hP hS hl)
theorem r_dup2 {v w : Value} (hC : Cx X G own cc ret d mc ms nL) (hdg : decode cc pc = .ok (.dup2, 1)) (hv : v.category = 1) (hw : w.category = 1) (kk : V X G Z M k n Q (pc + 1) L (v :: w :: v :: w :: rest)) : V X G Z M k n Q pc L (v :: w :: rest) := by
  obtain ⟨⟨hx, hb, hr, hml, hn⟩, hown, htw, hlk, hK, hA, hsg, hst, hR⟩ := hC
  intro H locs ls hP hS hl
  exact lv_dup2_11 hx hb hdg hv hw (kk H locs ls hP hS hl)
theorem r_if_eq {x : Int32} {off : Int} (tgt : Nat) (hC : Cx X G own cc ret d mc ms nL) (hdg : decode cc pc = .ok (.ifCond .eq off, 3)) (ht : (pc : Int) + off = (tgt : Int)) (kt : x = 0 → V X G Z M k n Q tgt L rest) (kf : ¬ x = 0 → V X G Z M k n Q (pc + 3) L rest) : V X G Z M k n Q pc L (.int x :: rest) := by
  obtain ⟨⟨hx, hb, hr, hml, hn⟩, hown, htw, hlk, hK, hA, hsg, hst, hR⟩ := hC
  intro H locs ls hP hS hl
  exact lv_if_eq hx hb hdg ht (fun h => kt h H locs ls hP hS hl) (fun h => kf h H locs ls hP hS hl)
theorem r_if_ne {x : Int32} {off : Int} (tgt : Nat) (hC : Cx X G own cc ret d mc ms nL) (hdg : decode cc pc = .ok (.ifCond .ne off, 3)) (ht : (pc : Int) + off = (tgt : Int)) (kt : ¬ x = 0 → V X G Z M k n Q tgt L rest) (kf : x = 0 → V X G Z M k n Q (pc + 3) L rest) : V X G Z M k n Q pc L (.int x :: rest) := by
  obtain ⟨⟨hx, hb, hr, hml, hn⟩, hown, htw, hlk, hK, hA, hsg, hst, hR⟩ := hC
  intro H locs ls hP hS hl
  exact lv_if_ne hx hb hdg ht (fun h => kt h H locs ls hP hS hl) (fun h => kf h H locs ls hP hS hl)
theorem r_if_lt {x : Int32} {off : Int} (tgt : Nat) (hC : Cx X G own cc ret d mc ms nL) (hdg : decode cc pc = .ok (.ifCond .lt off, 3)) (ht : (pc : Int) + off = (tgt : Int)) (kt : x < 0 → V X G Z M k n Q tgt L rest) (kf : ¬ x < 0 → V X G Z M k n Q (pc + 3) L rest) : V X G Z M k n Q pc L (.int x :: rest) := by
  obtain ⟨⟨hx, hb, hr, hml, hn⟩, hown, htw, hlk, hK, hA, hsg, hst, hR⟩ := hC
  intro H locs ls hP hS hl
  exact lv_if_lt hx hb hdg ht (fun h => kt h H locs ls hP hS hl) (fun h => kf h H locs ls hP hS hl)
theorem r_if_ge {x : Int32} {off : Int} (tgt : Nat) (hC : Cx X G own cc ret d mc ms nL) (hdg : decode cc pc = .ok (.ifCond .ge off, 3)) (ht : (pc : Int) + off = (tgt : Int)) (kt : 0 ≤ x → V X G Z M k n Q tgt L rest) (kf : ¬ 0 ≤ x → V X G Z M k n Q (pc + 3) L rest) : V X G Z M k n Q pc L (.int x :: rest) := by
  obtain ⟨⟨hx, hb, hr, hml, hn⟩, hown, htw, hlk, hK, hA, hsg, hst, hR⟩ := hC
  intro H locs ls hP hS hl
  exact lv_if_ge hx hb hdg ht (fun h => kt h H locs ls hP hS hl) (fun h => kf h H locs ls hP hS hl)
theorem r_if_gt {x : Int32} {off : Int} (tgt : Nat) (hC : Cx X G own cc ret d mc ms nL) (hdg : decode cc pc = .ok (.ifCond .gt off, 3)) (ht : (pc : Int) + off = (tgt : Int)) (kt : 0 < x → V X G Z M k n Q tgt L rest) (kf : ¬ 0 < x → V X G Z M k n Q (pc + 3) L rest) : V X G Z M k n Q pc L (.int x :: rest) := by
  obtain ⟨⟨hx, hb, hr, hml, hn⟩, hown, htw, hlk, hK, hA, hsg, hst, hR⟩ := hC
  intro H locs ls hP hS hl
  exact lv_if_gt hx hb hdg ht (fun h => kt h H locs ls hP hS hl) (fun h => kf h H locs ls hP hS hl)
theorem r_if_le {x : Int32} {off : Int} (tgt : Nat) (hC : Cx X G own cc ret d mc ms nL) (hdg : decode cc pc = .ok (.ifCond .le off, 3)) (ht : (pc : Int) + off = (tgt : Int)) (kt : x ≤ 0 → V X G Z M k n Q tgt L rest) (kf : ¬ x ≤ 0 → V X G Z M k n Q (pc + 3) L rest) : V X G Z M k n Q pc L (.int x :: rest) := by
  obtain ⟨⟨hx, hb, hr, hml, hn⟩, hown, htw, hlk, hK, hA, hsg, hst, hR⟩ := hC
  intro H locs ls hP hS hl
  exact lv_if_le hx hb hdg ht (fun h => kt h H locs ls hP hS hl) (fun h => kf h H locs ls hP hS hl)
theorem r_icmp_eq {x y : Int32} {off : Int} (tgt : Nat) (hC : Cx X G own cc ret d mc ms nL) (hdg : decode cc pc = .ok (.if_icmp .eq off, 3)) (ht : (pc : Int) + off = (tgt : Int)) (kt : x = y → V X G Z M k n Q tgt L rest) (kf : ¬ x = y → V X G Z M k n Q (pc + 3) L rest) : V X G Z M k n Q pc L (.int y :: .int x :: rest) := by
  obtain ⟨⟨hx, hb, hr, hml, hn⟩, hown, htw, hlk, hK, hA, hsg, hst, hR⟩ := hC
  intro H locs ls hP hS hl
  exact lv_icmp_eq hx hb hdg ht (fun h => kt h H locs ls hP hS hl) (fun h => kf h H locs ls hP hS hl)
theorem r_icmp_ne {x y : Int32} {off : Int} (tgt : Nat) (hC : Cx X G own cc ret d mc ms nL) (hdg : decode cc pc = .ok (.if_icmp .ne off, 3)) (ht : (pc : Int) + off = (tgt : Int)) (kt : ¬ x = y → V X G Z M k n Q tgt L rest) (kf : x = y → V X G Z M k n Q (pc + 3) L rest) : V X G Z M k n Q pc L (.int y :: .int x :: rest) := by
  obtain ⟨⟨hx, hb, hr, hml, hn⟩, hown, htw, hlk, hK, hA, hsg, hst, hR⟩ := hC
  intro H locs ls hP hS hl
  exact lv_icmp_ne hx hb hdg ht (fun h => kt h H locs ls hP hS hl) (fun h => kf h H locs ls hP hS hl)
theorem r_icmp_lt {x y : Int32} {off : Int} (tgt : Nat) (hC : Cx X G own cc ret d mc ms nL) (hdg : decode cc pc = .ok (.if_icmp .lt off, 3)) (ht : (pc : Int) + off = (tgt : Int)) (kt : x < y → V X G Z M k n Q tgt L rest) (kf : ¬ x < y → V X G Z M k n Q (pc + 3) L rest) : V X G Z M k n Q pc L (.int y :: .int x :: rest) := by
  obtain ⟨⟨hx, hb, hr, hml, hn⟩, hown, htw, hlk, hK, hA, hsg, hst, hR⟩ := hC
  intro H locs ls hP hS hl
  exact lv_icmp_lt hx hb hdg ht (fun h => kt h H locs ls hP hS hl) (fun h => kf h H locs ls hP hS hl)
theorem r_icmp_ge {x y : Int32} {off : Int} (tgt : Nat) (hC : Cx X G own cc ret d mc ms nL) (hdg : decode cc pc = .ok (.if_icmp .ge off, 3)) (ht : (pc : Int) + off = (tgt : Int)) (kt : y ≤ x → V X G Z M k n Q tgt L rest) (kf : ¬ y ≤ x → V X G Z M k n Q (pc + 3) L rest) : V X G Z M k n Q pc L (.int y :: .int x :: rest) := by
  obtain ⟨⟨hx, hb, hr, hml, hn⟩, hown, htw, hlk, hK, hA, hsg, hst, hR⟩ := hC
  intro H locs ls hP hS hl
  exact lv_icmp_ge hx hb hdg ht (fun h => kt h H locs ls hP hS hl) (fun h => kf h H locs ls hP hS hl)
theorem r_icmp_gt {x y : Int32} {off : Int} (tgt : Nat) (hC : Cx X G own cc ret d mc ms nL) (hdg : decode cc pc = .ok (.if_icmp .gt off, 3)) (ht : (pc : Int) + off = (tgt : Int)) (kt : y < x → V X G Z M k n Q tgt L rest) (kf : ¬ y < x → V X G Z M k n Q (pc + 3) L rest) : V X G Z M k n Q pc L (.int y :: .int x :: rest) := by
  obtain ⟨⟨hx, hb, hr, hml, hn⟩, hown, htw, hlk, hK, hA, hsg, hst, hR⟩ := hC
  intro H locs ls hP hS hl
  exact lv_icmp_gt hx hb hdg ht (fun h => kt h H locs ls hP hS hl) (fun h => kf h H locs ls hP hS hl)
theorem r_icmp_le {x y : Int32} {off : Int} (tgt : Nat) (hC : Cx X G own cc ret d mc ms nL) (hdg : decode cc pc = .ok (.if_icmp .le off, 3)) (ht : (pc : Int) + off = (tgt : Int)) (kt : x ≤ y → V X G Z M k n Q tgt L rest) (kf : ¬ x ≤ y → V X G Z M k n Q (pc + 3) L rest) : V X G Z M k n Q pc L (.int y :: .int x :: rest) := by
  obtain ⟨⟨hx, hb, hr, hml, hn⟩, hown, htw, hlk, hK, hA, hsg, hst, hR⟩ := hC
  intro H locs ls hP hS hl
  exact lv_icmp_le hx hb hdg ht (fun h => kt h H locs ls hP hS hl) (fun h => kf h H locs ls hP hS hl)
theorem r_goto {off : Int} (tgt : Nat) (hC : Cx X G own cc ret d mc ms nL) (hdg : decode cc pc = .ok (.goto off, 3)) (ht : (pc : Int) + off = (tgt : Int)) (kk : V X G Z M k n Q tgt L rest) : V X G Z M k n Q pc L rest := by
  obtain ⟨⟨hx, hb, hr, hml, hn⟩, hown, htw, hlk, hK, hA, hsg, hst, hR⟩ := hC
  intro H locs ls hP hS hl
  exact lv_goto hx hb hdg ht (kk H locs ls hP hS hl)
theorem r_switch {x : Int32} {dflt lo hi : Int} {offs : Array Int} {len : Nat} (hC : Cx X G own cc ret d mc ms nL) (hdg : decode cc pc = .ok (.tableswitch dflt lo hi offs, len)) (td : Nat) (htd : (pc : Int) + dflt = (td : Int)) (tg : List Nat) (htg : ∀ i : Nat, i < tg.length → ∃ off : Int, offs[i]? = some off ∧ (pc : Int) + off = ((tg.getD i 0 : Nat) : Int)) (hlen : hi - lo + 1 = tg.length)
    (kd : (x.toInt < lo ∨ hi < x.toInt) → V X G Z M k n Q td L rest) (kk : ∀ i : Nat, i < tg.length → x.toInt = lo + i → V X G Z M k n Q (tg.getD i 0) L rest) : V X G Z M k n Q pc L (.int x :: rest) := by
  obtain ⟨⟨hx, hb, hr, hml, hn⟩, hown, htw, hlk, hK, hA, hsg, hst, hR⟩ := hC
  intro H locs ls hP hS hl
  by_cases h1 : x.toInt < lo
  · exact lv_tableOut hx hb hdg (Or.inl h1) htd (kd (Or.inl h1) H locs ls hP hS hl)
  · by_cases h2 : hi < x.toInt
    · exact lv_tableOut hx hb hdg (Or.inr h2) htd (kd (Or.inr h2) H locs ls hP hS hl)
    · have hi' : (x.toInt - lo).toNat < tg.length := by omega
      obtain ⟨off, ho, ht⟩ := htg _ hi'
      exact lv_tableIn hx hb hdg h1 h2 ho ht (kk _ hi' (by omega) H locs ls hP hS hl)
theorem r_L {L' : List (Nat × Value)} (ps : List Nat) (hL : lv_pick L ps = L') (kk : V X G Z M k n Q pc L' rest) : V X G Z M k n Q pc L rest := by
  intro H locs ls hP hS hl
  exact kk H locs ls hP hS (lv_sub hl ps hL)
theorem r_wide {k' n' : Nat} (h1 : k ≤ k') (h2 : n ≤ n') (kk : V X G Z M k' n' Q pc L rest) : V X G Z M k n Q pc L rest := by
  intro H locs ls hP hS hl
  exact W.widen h1 h2 (kk H locs ls hP hS hl)
theorem r_get {C : String} {T : u_T} {N ci idx i : Nat} {F : Nat → Option (Option Nat)} {v : Value} (hin : ∀ w ∈ u_ws C T N, w ∈ TW) (hc : vwCl[ci]? = some (C, T, N)) (kf : Nat) (hk : kf < N) (hown2 : (T kf).1 = C) (hw : Cond.fieldLink own idx C (T kf).2.1 (T kf).2.2.1 ∈ TW)
    (hC : Cx X G own cc ret d mc ms nL) (hi : At Z i (.inl (ci, N, F))) (hv : fv Z.1 (M i) F kf = v) (hdg : decode cc pc = .ok (.getfield idx, 3)) (kk : V X G Z M k n Q (pc + 3) L (v :: rest)) : V X G Z M k n Q pc L (.ref (Z.1 i) :: rest) := by
  obtain ⟨⟨hx, hb, hr, hml, hn⟩, hown, htw, hlk, hK, hA, hsg, hst, hR⟩ := hC
  intro H locs ls hP hS hl
  obtain ⟨q, -, hq⟩ := wv_get (G := G) (M := M) hi
  exact va_get (Ts := TW) hx hb (htw.use _) hin hown hK hP q hq hc kf hk (htw.use _ _ hw) (fun x h => by rw [hown2] at h; exact h) (by rw [List.getElem?_map, List.getElem?_range hk, ← hv]; rfl) hdg (kk H locs ls hP hS hl)
theorem r_getN {C : String} {T : u_T} {N ci idx i : Nat} {F : Nat → Option (Option Nat)} {v : Value} (hin : ∀ w ∈ u_ws C T N, w ∈ TW) (hc : vwCl[ci]? = some (C, T, N)) (kf : Nat) (hk : kf < N) (hown2 : (T kf).1 = C) (hw : Cond.fieldLinkNest own idx C (T kf).2.1 (T kf).2.2.1 "HandSpans" ∈ TW)
    (hC : Cx X G own cc ret d mc ms nL) (hi : At Z i (.inl (ci, N, F))) (hv : fv Z.1 (M i) F kf = v) (hdg : decode cc pc = .ok (.getfield idx, 3)) (kk : V X G Z M k n Q (pc + 3) L (v :: rest)) : V X G Z M k n Q pc L (.ref (Z.1 i) :: rest) := by
  obtain ⟨⟨hx, hb, hr, hml, hn⟩, hown, htw, hlk, hK, hA, hsg, hst, hR⟩ := hC
  intro H locs ls hP hS hl
  obtain ⟨q, -, hq⟩ := wv_get (G := G) (M := M) hi
  exact va_getN (Ts := TW) hx hb (htw.use _) hin hown hK hP q hq hc kf hk (htw.use _ _ hw) (fun x h => by rw [hown2] at h; exact h) (by rw [List.getElem?_map, List.getElem?_range hk, ← hv]; rfl) hdg (kk H locs ls hP hS hl)
theorem r_put {C : String} {T : u_T} {N ci idx i : Nat} {F : Nat → Option (Option Nat)} {x : Int32} {ty : FieldType} (hin : ∀ w ∈ u_ws C T N, w ∈ TW) (ty0 : Nat → FieldType) (hty : ∀ k, k < N → parseFieldDescriptor (T k).2.2.1 = some (ty0 k)) (hnm : ∀ a, a < N → ∀ b, b < N → a ≠ b → (T a).2.1 ≠ (T b).2.1) (hc : vwCl[ci]? = some (C, T, N)) (kf : Nat) (hk : kf < N) (hown2 : (T kf).1 = C) (hfin : (T kf).2.2.2 = false) (hd : parseFieldDescriptor (T kf).2.2.1 = some ty) (hw : Cond.fieldLink own idx C (T kf).2.1 (T kf).2.2.1 ∈ TW)
    (hC : Cx X G own cc ret d mc ms nL) (hz : ZOk G Z) (hi : At Z i (.inl (ci, N, F))) (hF : F kf = none) (hnr : narrow ty (.int x) = .int x) (hfit : fits ty (.int x) = true) (hdg : decode cc pc = .ok (.putfield idx, 3)) (kk : V X G Z (mw M i kf x) k n Q (pc + 3) L rest) : V X G Z M k n Q pc L (.int x :: .ref (Z.1 i) :: rest) := by
  obtain ⟨⟨hx, hb, hr, hml, hn⟩, hown, htw, hlk, hK, hA, hsg, hst, hR⟩ := hC
  intro H locs ls hP hS hl
  obtain ⟨q, hq0, hq⟩ := wv_get (G := G) (M := M) hi
  refine va_put (Ts := TW) hx hb (htw.use _) hin ty0 hty hnm hown hK hP (wv_D hz M) hS q hq hc kf hk (htw.use _ _ hw) (fun x h => by rw [hown2] at h; exact h) hfin hd hnr hfit (by simp; exact hk) hdg (fun H1 locs1 hP1 _ hS1 => kk H1 locs1 ls ?_ hS1 hl)
  have e : (((List.range N).map (fv Z.1 (M i) F)).set kf (.int x)) = (List.range N).map (fv Z.1 (upd (M i) kf x) F) := by
    have := map_set (fv Z.1 (M i) F) (fv Z.1 (upd (M i) kf x) F) (List.range N) kf (List.getElem?_range hk) List.nodup_range (fun j hj => by simp [fv, upd, hj])
    rw [← this]
    simp [fv, hF, upd]
  rw [e] at hP1
  have e2 := wv_set (M := M) hz hq0 (upd (M i) kf x)
  rw [hi.2] at e2
  have e3 : wv G Z (mw M i kf x) = (wv G Z M).set q (Z.1 i, .inr (ci, (List.range N).map (fv Z.1 (upd (M i) kf x) F))) := e2.symm
  rw [e3]
  exact hP1
theorem r_putN {C : String} {T : u_T} {N ci idx i : Nat} {F : Nat → Option (Option Nat)} {x : Int32} {ty : FieldType} (hin : ∀ w ∈ u_ws C T N, w ∈ TW) (ty0 : Nat → FieldType) (hty : ∀ k, k < N → parseFieldDescriptor (T k).2.2.1 = some (ty0 k)) (hnm : ∀ a, a < N → ∀ b, b < N → a ≠ b → (T a).2.1 ≠ (T b).2.1) (hc : vwCl[ci]? = some (C, T, N)) (kf : Nat) (hk : kf < N) (hown2 : (T kf).1 = C) (hfin : (T kf).2.2.2 = false) (hd : parseFieldDescriptor (T kf).2.2.1 = some ty) (hw : Cond.fieldLinkNest own idx C (T kf).2.1 (T kf).2.2.1 "HandSpans" ∈ TW)
    (hC : Cx X G own cc ret d mc ms nL) (hz : ZOk G Z) (hi : At Z i (.inl (ci, N, F))) (hF : F kf = none) (hnr : narrow ty (.int x) = .int x) (hfit : fits ty (.int x) = true) (hdg : decode cc pc = .ok (.putfield idx, 3)) (kk : V X G Z (mw M i kf x) k n Q (pc + 3) L rest) : V X G Z M k n Q pc L (.int x :: .ref (Z.1 i) :: rest) := by
  obtain ⟨⟨hx, hb, hr, hml, hn⟩, hown, htw, hlk, hK, hA, hsg, hst, hR⟩ := hC
  intro H locs ls hP hS hl
  obtain ⟨q, hq0, hq⟩ := wv_get (G := G) (M := M) hi
  refine va_putN (Ts := TW) hx hb (htw.use _) hin ty0 hty hnm hown hK hP (wv_D hz M) hS q hq hc kf hk (htw.use _ _ hw) (fun x h => by rw [hown2] at h; exact h) hfin hd hnr hfit (by simp; exact hk) hdg (fun H1 locs1 hP1 _ hS1 => kk H1 locs1 ls ?_ hS1 hl)
  have e : (((List.range N).map (fv Z.1 (M i) F)).set kf (.int x)) = (List.range N).map (fv Z.1 (upd (M i) kf x) F) := by
    have := map_set (fv Z.1 (M i) F) (fv Z.1 (upd (M i) kf x) F) (List.range N) kf (List.getElem?_range hk) List.nodup_range (fun j hj => by simp [fv, upd, hj])
    rw [← this]
    simp [fv, hF, upd]
  rw [e] at hP1
  have e2 := wv_set (M := M) hz hq0 (upd (M i) kf x)
  rw [hi.2] at e2
  have e3 : wv G Z (mw M i kf x) = (wv G Z M).set q (Z.1 i, .inr (ci, (List.range N).map (fv Z.1 (upd (M i) kf x) F))) := e2.symm
  rw [e3]
  exact hP1
theorem r_iald {i N : Nat} {x : Int32} (hC : Cx X G own cc ret d mc ms nL) (hi : At Z i (.inr (.inl (0, N)))) (hin : vp_in x N) (hdg : decode cc pc = .ok (.iaload, 1)) (kk : V X G Z M k n Q (pc + 1) L (.int (M i x.toNatClampNeg) :: rest)) : V X G Z M k n Q pc L (.int x :: .ref (Z.1 i) :: rest) := by
  obtain ⟨⟨hx, hb, hr, hml, hn⟩, hown, htw, hlk, hK, hA, hsg, hst, hR⟩ := hC
  intro H locs ls hP hS hl
  obtain ⟨q, hq0, hq⟩ := wv_get (G := G) (M := M) hi
  exact va_iald hx hb hK hP q 0 hq rfl hin hdg (kk H locs ls hP hS hl)
theorem r_zald {i N : Nat} {x : Int32} (hC : Cx X G own cc ret d mc ms nL) (hi : At Z i (.inr (.inl (1, N)))) (hin : vp_in x N) (hdg : decode cc pc = .ok (.baload, 1)) (kk : V X G Z M k n Q (pc + 1) L (.int (M i x.toNatClampNeg) :: rest)) : V X G Z M k n Q pc L (.int x :: .ref (Z.1 i) :: rest) := by
  obtain ⟨⟨hx, hb, hr, hml, hn⟩, hown, htw, hlk, hK, hA, hsg, hst, hR⟩ := hC
  intro H locs ls hP hS hl
  obtain ⟨q, hq0, hq⟩ := wv_get (G := G) (M := M) hi
  exact va_zald hx hb hK hP q 1 hq rfl hin hdg (kk H locs ls hP hS hl)
theorem r_cald {i N : Nat} {x : Int32} (hC : Cx X G own cc ret d mc ms nL) (hi : At Z i (.inr (.inl (2, N)))) (hin : vp_in x N) (hdg : decode cc pc = .ok (.caload, 1)) (kk : V X G Z M k n Q (pc + 1) L (.int (M i x.toNatClampNeg) :: rest)) : V X G Z M k n Q pc L (.int x :: .ref (Z.1 i) :: rest) := by
  obtain ⟨⟨hx, hb, hr, hml, hn⟩, hown, htw, hlk, hK, hA, hsg, hst, hR⟩ := hC
  intro H locs ls hP hS hl
  obtain ⟨q, hq0, hq⟩ := wv_get (G := G) (M := M) hi
  exact va_cald hx hb hK hP q 2 hq rfl hin hdg (kk H locs ls hP hS hl)
theorem r_iast {i N : Nat} {j x : Int32} (hC : Cx X G own cc ret d mc ms nL) (hz : ZOk G Z) (hi : At Z i (.inr (.inl (0, N)))) (hin : vp_in j N) (hdg : decode cc pc = .ok (.iastore, 1)) (kk : V X G Z (mw M i j.toNatClampNeg (x)) k n Q (pc + 1) L rest) : V X G Z M k n Q pc L (.int x :: .int j :: .ref (Z.1 i) :: rest) := by
  obtain ⟨⟨hx, hb, hr, hml, hn⟩, hown, htw, hlk, hK, hA, hsg, hst, hR⟩ := hC
  intro H locs ls hP hS hl
  obtain ⟨q, hq0, hq⟩ := wv_get (G := G) (M := M) hi
  refine va_iast hx hb hK hP (wv_D hz M) hS q 0 hq rfl hin hdg (fun H1 locs1 hP1 _ hS1 => kk H1 locs1 ls ?_ hS1 hl)
  have e2 := wv_set (M := M) hz hq0 (upd (M i) j.toNatClampNeg (x))
  rw [hi.2] at e2
  have e3 : wv G Z (mw M i j.toNatClampNeg (x)) = (wv G Z M).set q (Z.1 i, .inl (G.2.1 0, N, .inl (upd (M i) j.toNatClampNeg (x)))) := e2.symm
  rw [e3]
  exact hP1
theorem r_zast {i N : Nat} {j x : Int32} (hC : Cx X G own cc ret d mc ms nL) (hz : ZOk G Z) (hi : At Z i (.inr (.inl (1, N)))) (hin : vp_in j N) (hdg : decode cc pc = .ok (.bastore, 1)) (kk : V X G Z (mw M i j.toNatClampNeg (vp_nar .boolean x)) k n Q (pc + 1) L rest) : V X G Z M k n Q pc L (.int x :: .int j :: .ref (Z.1 i) :: rest) := by
  obtain ⟨⟨hx, hb, hr, hml, hn⟩, hown, htw, hlk, hK, hA, hsg, hst, hR⟩ := hC
  intro H locs ls hP hS hl
  obtain ⟨q, hq0, hq⟩ := wv_get (G := G) (M := M) hi
  refine va_zast hx hb hK hP (wv_D hz M) hS q 1 hq rfl hin hdg (fun H1 locs1 hP1 _ hS1 => kk H1 locs1 ls ?_ hS1 hl)
  have e2 := wv_set (M := M) hz hq0 (upd (M i) j.toNatClampNeg (vp_nar .boolean x))
  rw [hi.2] at e2
  have e3 : wv G Z (mw M i j.toNatClampNeg (vp_nar .boolean x)) = (wv G Z M).set q (Z.1 i, .inl (G.2.1 1, N, .inl (upd (M i) j.toNatClampNeg (vp_nar .boolean x)))) := e2.symm
  rw [e3]
  exact hP1
theorem r_cast {i N : Nat} {j x : Int32} (hC : Cx X G own cc ret d mc ms nL) (hz : ZOk G Z) (hi : At Z i (.inr (.inl (2, N)))) (hin : vp_in j N) (hdg : decode cc pc = .ok (.castore, 1)) (kk : V X G Z (mw M i j.toNatClampNeg (vp_nar .char x)) k n Q (pc + 1) L rest) : V X G Z M k n Q pc L (.int x :: .int j :: .ref (Z.1 i) :: rest) := by
  obtain ⟨⟨hx, hb, hr, hml, hn⟩, hown, htw, hlk, hK, hA, hsg, hst, hR⟩ := hC
  intro H locs ls hP hS hl
  obtain ⟨q, hq0, hq⟩ := wv_get (G := G) (M := M) hi
  refine va_cast hx hb hK hP (wv_D hz M) hS q 2 hq rfl hin hdg (fun H1 locs1 hP1 _ hS1 => kk H1 locs1 ls ?_ hS1 hl)
  have e2 := wv_set (M := M) hz hq0 (upd (M i) j.toNatClampNeg (vp_nar .char x))
  rw [hi.2] at e2
  have e3 : wv G Z (mw M i j.toNatClampNeg (vp_nar .char x)) = (wv G Z M).set q (Z.1 i, .inl (G.2.1 2, N, .inl (upd (M i) j.toNatClampNeg (vp_nar .char x)))) := e2.symm
  rw [e3]
  exact hP1
theorem r_alen {i N : Nat} {v : Int32} (hC : Cx X G own cc ret d mc ms nL) (hi : At Z i (.inr (.inl (0, N)))) (hv : N.toInt32 = v) (hdg : decode cc pc = .ok (.arraylength, 1)) (kk : V X G Z M k n Q (pc + 1) L (.int v :: rest)) : V X G Z M k n Q pc L (.ref (Z.1 i) :: rest) := by
  obtain ⟨⟨hx, hb, hr, hml, hn⟩, hown, htw, hlk, hK, hA, hsg, hst, hR⟩ := hC
  intro H locs ls hP hS hl
  obtain ⟨q, hq0, hq⟩ := wv_get (G := G) (M := M) hi
  exact va_alen hx hb hK hP q 0 hq rfl hv hdg (kk H locs ls hP hS hl)
theorem r_lald {i N : Nat} {x : Int32} (hC : Cx X G own cc ret d mc ms nL) (hi : At Z i (.inr (.inr (.inr N)))) (hin : vp_in x N) (hdg : decode cc pc = .ok (.laload, 1)) (kk : V X G Z M k n Q (pc + 1) L (.long (M i x.toNatClampNeg).toInt64 :: rest)) : V X G Z M k n Q pc L (.int x :: .ref (Z.1 i) :: rest) := by
  obtain ⟨⟨hx, hb, hr, hml, hn⟩, hown, htw, hlk, hK, hA, hsg, hst, hR⟩ := hC
  intro H locs ls hP hS hl
  obtain ⟨q, hq0, hq⟩ := wv_get (G := G) (M := M) hi
  exact va_lald hx hb hK hP q 3 hq rfl hin hdg (kk H locs ls hP hS hl)
theorem r_last {i N : Nat} {j x : Int32} (hC : Cx X G own cc ret d mc ms nL) (hz : ZOk G Z) (hi : At Z i (.inr (.inr (.inr N)))) (hin : vp_in j N) (hdg : decode cc pc = .ok (.lastore, 1)) (kk : V X G Z (mw M i j.toNatClampNeg x) k n Q (pc + 1) L rest) : V X G Z M k n Q pc L (.long x.toInt64 :: .int j :: .ref (Z.1 i) :: rest) := by
  obtain ⟨⟨hx, hb, hr, hml, hn⟩, hown, htw, hlk, hK, hA, hsg, hst, hR⟩ := hC
  intro H locs ls hP hS hl
  obtain ⟨q, hq0, hq⟩ := wv_get (G := G) (M := M) hi
  refine va_last hx hb hK hP (wv_D hz M) hS q 3 hq rfl hin hdg (fun H1 locs1 hP1 _ hS1 => kk H1 locs1 ls ?_ hS1 hl)
  have e2 := wv_set (M := M) hz hq0 (upd (M i) j.toNatClampNeg x)
  rw [hi.2] at e2
  have e0 : vp_updL (fun q => (M i q).toInt64) j.toNatClampNeg x.toInt64 = fun q => (upd (M i) j.toNatClampNeg x q).toInt64 := by
    funext q
    unfold vp_updL upd
    split <;> rfl
  rw [e0] at hP1
  have e3 : wv G Z (mw M i j.toNatClampNeg x) = (wv G Z M).set q (Z.1 i, .inl (G.2.1 3, N, .inr (.inl (fun q => (upd (M i) j.toNatClampNeg x q).toInt64)))) := e2.symm
  rw [e3]
  exact hP1
theorem r_aald {i N t j : Nat} {F : Nat → Option Nat} {C : String} {x : Int32} (hC : Cx X G own cc ret d mc ms nL) (hi : At Z i (.inr (.inr (.inl (t, N, F))))) (ht : (tys G)[t]? = some (G.2.1 t, .object C)) (hin : vp_in x N) (hF : F x.toNatClampNeg = some j) (hdg : decode cc pc = .ok (.aaload, 1)) (kk : V X G Z M k n Q (pc + 1) L (.ref (Z.1 j) :: rest)) : V X G Z M k n Q pc L (.int x :: .ref (Z.1 i) :: rest) := by
  obtain ⟨⟨hx, hb, hr, hml, hn⟩, hown, htw, hlk, hK, hA, hsg, hst, hR⟩ := hC
  intro H locs ls hP hS hl
  obtain ⟨q, hq0, hq⟩ := wv_get (G := G) (M := M) hi
  refine va_aldq hx hb hK hP q t hq ht hin hdg ?_
  rw [hF]
  exact kk H locs ls hP hS hl
theorem r_gald {i N j : Nat} {F : Nat → Option Nat} {x : Int32} (hC : Cx X G own cc ret d mc ms nL) (hi : At Z i (.inr (.inr (.inl (4, N, F))))) (hin : vp_in x N) (hF : F x.toNatClampNeg = some j) (hdg : decode cc pc = .ok (.aaload, 1)) (kk : V X G Z M k n Q (pc + 1) L (.ref (Z.1 j) :: rest)) : V X G Z M k n Q pc L (.int x :: .ref (Z.1 i) :: rest) := by
  obtain ⟨⟨hx, hb, hr, hml, hn⟩, hown, htw, hlk, hK, hA, hsg, hst, hR⟩ := hC
  intro H locs ls hP hS hl
  obtain ⟨q, hq0, hq⟩ := wv_get (G := G) (M := M) hi
  have hlt : x.toNatClampNeg < N := Nat.not_le.mp fun q => hin (Or.inr q)
  refine W.aald (v := .ref (Z.1 j)) (ty := .array .int) hx hb (hP q _ hq) ((hK.2 4 _ rfl).1 N (fun j => va_rf ((F j).map Z.1))) rfl (fun q => by cases q) (by show ¬ (x < 0 ∨ (arrV _ _ _).slots.size ≤ _); rw [arrV_size]; exact hin) (by show (arrV _ _ _).slots[_]? = _; rw [arrV_read _ _ hlt]; show some (va_rf (Option.map Z.1 (F x.toNatClampNeg))) = _; rw [hF]; rfl) rfl rfl hdg (kk H locs ls hP hS hl)
theorem r_gets {j idx : Nat} {nm : String} {f : Nat → Value} (hZ : ∀ {U : State} {H : Heap}, Sg G U H → va_Z "HandSpans" nm "[I" (.ref (G.2.2.2 j)) G.2.2.1 U H) (hC : Cx X G own cc ret d mc ms nL) (hw : Cond.fieldLinkNest own idx "HandSpans" nm "[I" "HandSpans" ∈ TW) (hdg : decode cc pc = .ok (.getstatic idx, 3)) (kk : V X G Z M k n Q (pc + 3) L (.ref (G.2.2.2 j) :: rest)) : V X G Z M k n Q pc L rest := by
  obtain ⟨⟨hx, hb, hr, hml, hn⟩, hown, htw, hlk, hK, hA, hsg, hst, hR⟩ := hC
  intro H locs ls hP hS hl
  exact va_getsN hx hb (hZ hsg) hS hown (htw.use _ _ hw) (fun _ h => h) hdg (kk H locs ls hP hS hl)
theorem r_tald {j : Nat} {x v : Int32} {f : Nat → Int32} (hT : ∀ {U : State} {H : Heap}, Sg G U H → va_T .int (G.2.2.2 j) 6 (fun k => .int (f k)) G.2.2.1 U H) (hC : Cx X G own cc ret d mc ms nL) (hin : vp_in x 6) (hv : f x.toNatClampNeg = v) (hdg : decode cc pc = .ok (.iaload, 1)) (kk : V X G Z M k n Q (pc + 1) L (.int v :: rest)) : V X G Z M k n Q pc L (.int x :: .ref (G.2.2.2 j) :: rest) := by
  obtain ⟨⟨hx, hb, hr, hml, hn⟩, hown, htw, hlk, hK, hA, hsg, hst, hR⟩ := hC
  intro H locs ls hP hS hl
  exact va_ti hx hb (hT hsg) hS hin (by rw [hv]) hdg (kk H locs ls hP hS hl)
end RR
end
section
def ob {α β : Type} (x : Option (α × Mem)) (k : α → Mem → Option β) : Option β := match x with
  | none => none
  | some (a, M) => k a M
def oe {α β : Type} (x : Option (Except Nat α × Mem)) (k : α → Mem → Option (Except Nat β × Mem)) : Option (Except Nat β × Mem) := match x with
  | none => none
  | some (.error e, M) => some (.error e, M)
  | some (.ok a, M) => k a M
theorem if_T {α : Type} {c : Prop} [Decidable c] {a b x : α} (hf : (if c then a else b) = x) (h : c) : a = x := by rw [if_pos h] at hf; exact hf
theorem if_F {α : Type} {c : Prop} [Decidable c] {a b x : α} (hf : (if c then a else b) = x) (h : ¬ c) : b = x := by rw [if_neg h] at hf; exact hf
theorem if_K {α : Type} {c : Prop} [Decidable c] {a : Option α} {x : α} (hf : (if c then a else none) = some x) : c := by
  by_cases h : c
  · exact h
  · rw [if_neg h] at hf; cases hf
theorem if_V {α : Type} {c : Prop} [Decidable c] {a : Option α} {x : α} (hf : (if c then a else none) = some x) : a = some x := if_T hf (if_K hf)
/-! CONTRACTS -/
def Wp (G : GG) (Z : ZZ) (M : Mem) (t : State) : Prop := va_P G.1 vwCl (wv G Z M) t.heap
def exn : Nat → String
  | 0 => "java/lang/IllegalArgumentException"
  | 1 => "java/lang/IllegalStateException"
  | _ => "java/lang/IndexOutOfBoundsException"
def QcI (G : GG) (Z : ZZ) (r : Int32) (M' : Mem) : Array Value → State → Outcome → State → Prop := va_Qi (fun x (_ : Unit) => x = r) (fun _ t => Wp G Z M' t) G.2.2.1
def QcL (G : GG) (Z : ZZ) (r : Int64) (M' : Mem) : Array Value → State → Outcome → State → Prop := va_Ql (fun x (_ : Unit) => x = r) (fun _ t => Wp G Z M' t) G.2.2.1
def QcV (G : GG) (Z : ZZ) (_ : Unit) (M' : Mem) : Array Value → State → Outcome → State → Prop := va_Qv (fun _ : Unit => True) (fun _ t => Wp G Z M' t) G.2.2.1
def QcR (ido : Nat → Nat) (G : GG) (Z : ZZ) (r : Nat) (M' : Mem) : Array Value → State → Outcome → State → Prop := va_Qr (fun _ : Unit => True) (fun _ a t => a = Z.1 (ido r) ∧ Wp G Z M' t) G.2.2.1
def QcTI (G : GG) (Z : ZZ) (r : Except Nat Int32) (M' : Mem) : Array Value → State → Outcome → State → Prop := va_Qi (fun x (_ : Unit) => r = .ok x) (fun _ t => Wp G Z M' t) G.2.2.1
def QcTV (G : GG) (Z : ZZ) (r : Except Nat Unit) (M' : Mem) : Array Value → State → Outcome → State → Prop := va_Qv (fun _ : Unit => r = .ok ()) (fun _ t => Wp G Z M' t) G.2.2.1
def XcT {α : Type} (G : GG) (Z : ZZ) (r : Except Nat α) (M' : Mem) : String → State → State → Prop := vx_X (fun k : Nat => r = .error k) (fun E k t => E = exn k ∧ Wp G Z M' t) G.2.2.1
def CN (Qc : Array Value → State → Outcome → State → Prop) (l : Launch) (G : GG) (Z : ZZ) (y : MethodName) (cc : ByteArray) (nL : Nat) (ret : Option FieldType) (d : Nat) (As : List Value) (M : Mem) : Prop :=
  Met l y [.code y cc nL ret] (rmd d 0 0) (va_Pc As (Wd G Z M)) Qc 0 0 G.2.2.1
def CT (Qc : Array Value → State → Outcome → State → Prop) (Xc : String → State → State → Prop) (l : Launch) (G : GG) (Z : ZZ) (y : MethodName) (cc : ByteArray) (nL : Nat) (ret : Option FieldType) (d mc ms : Nat) (As : List Value) (M : Mem) : Prop :=
  vx_Met l y [.code y cc nL ret] (rmd d mc ms) (va_Pc As (Wd G Z M)) Qc Xc mc ms G.2.2.1
/-- what a body that returns owes; what one that may throw owes -/
def QN (X : XX) (G : GG) (Qc : Array Value → State → Outcome → State → Prop) (mc ms : Nat) : State → Prop := MQ (xb X) Qc (xa X) (xs X) mc ms G.2.2.1
def QT (X : XX) (G : GG) (Qc : Array Value → State → Outcome → State → Prop) (Xc : String → State → State → Prop) (mc ms : Nat) : State → Prop := vx_MQ (xb X) Qc Xc (xa X) (xs X) mc ms G.2.2.1
theorem CN.of {Qc : Array Value → State → Outcome → State → Prop} {l : Launch} {G : GG} {Z : ZZ} {y : MethodName} {cc : ByteArray} {nL : Nat} {ret : Option FieldType} {d : Nat} {As : List Value} {M : Mem} (L0 : List (Nat × Value)) (hl : l.stackTraces = false) (hy : plainName y.cls = true) (hlen : (lg_sl As).length ≤ nL) (hL : lv_args 0 As = L0)
    (body : ∀ X : XX, Cx X G y.cls cc ret d 0 0 nL → V X G Z M 0 0 (QN X G Qc 0 0) 0 L0 []) : CN Qc l G Z y cc nL ret d As M := by
  refine Met.ofW (cc := cc) (maxL := nL) (ret := ret) hy rfl ?_
  intro p e s m args below meth c s₁ B hml hv
  obtain ⟨rfl, hP, hK, hA, hsg, htw⟩ := hv
  have hown : s.vm.findClass y.cls = some m.cls := findClass_of_methodNamed B.named
  have hl0 := lv_entry As (n := nL) hlen
  rw [hL] at hl0
  rw [lg_entry_eq]
  exact body (p, l, e, rmd d 0 0, s, m, As.toArray, below, meth, c, nL) ⟨⟨B.exec, B.bytes, B.returns, hml, rfl⟩, hown, htw, B.notSynchronized, hK, hA, hsg, hl, rfl⟩ s.heap [] _ hP va_S.rf hl0
theorem CT.of {Qc : Array Value → State → Outcome → State → Prop} {Xc : String → State → State → Prop} {l : Launch} {G : GG} {Z : ZZ} {y : MethodName} {cc : ByteArray} {nL : Nat} {ret : Option FieldType} {d mc ms : Nat} {As : List Value} {M : Mem} (L0 : List (Nat × Value)) (hl : l.stackTraces = false) (hy : plainName y.cls = true) (hlen : (lg_sl As).length ≤ nL) (hL : lv_args 0 As = L0)
    (body : ∀ X : XX, Cx X G y.cls cc ret d mc ms nL → (∀ x ∈ (xc X).exceptionTable.toList, False) → V X G Z M 0 0 (QT X G Qc Xc mc ms) 0 L0 []) : CT Qc Xc l G Z y cc nL ret d mc ms As M := by
  refine vx_ofW (cc := cc) (maxL := nL) (ret := ret) hy rfl ?_
  intro p e s m args below meth c s₁ B hml hno hv
  obtain ⟨rfl, hP, hK, hA, hsg, htw⟩ := hv
  have hown : s.vm.findClass y.cls = some m.cls := findClass_of_methodNamed B.named
  have hl0 := lv_entry As (n := nL) hlen
  rw [hL] at hl0
  rw [lg_entry_eq]
  exact body (p, l, e, rmd d mc ms, s, m, As.toArray, below, meth, c, nL) ⟨⟨B.exec, B.bytes, B.returns, hml, rfl⟩, hown, htw, B.notSynchronized, hK, hA, hsg, hl, rfl⟩ hno s.heap [] _ hP va_S.rf hl0
def CsV (own : String) (idx : Nat) (y : MethodName) (cy : ByteArray) (ny : Nat) (rety : Option FieldType) (na : Nat) : Prop :=
  GoodIn TW (wsV own idx y.cls y [.code y cy ny rety]) ∧ (y.cls ≠ "java/lang/invoke/MethodHandle" ∧ y.cls ≠ "java/lang/invoke/VarHandle") ∧ (parseMethodDescriptor y.desc).map (fun d => d.parameters.length) = some na
def CsS (own : String) (idx : Nat) (y : MethodName) (cy : ByteArray) (ny : Nat) (rety : Option FieldType) (na : Nat) : Prop :=
  GoodIn TW (va_wsS own idx y [.code y cy ny rety]) ∧ (y.cls ≠ "java/lang/invoke/MethodHandle" ∧ y.cls ≠ "java/lang/invoke/VarHandle") ∧ (parseMethodDescriptor y.desc).map (fun d => d.parameters.length) = some na
theorem csV_of {own : String} {idx : Nat} {y : MethodName} {cy : ByteArray} {ny : Nat} {rety : Option FieldType} {na : Nat} (w1 : Cond.methodLink own idx y ∈ lw_tbl) (w2 : Cond.instanceMethod y ∈ lw_tbl) (w3 : Cond.selects y.cls y y ∈ lw_tbl) (w4 : Cond.initialized y.cls ∈ lw_tbl) (w5 : Cond.code y cy ny rety ∈ lw_tbl)
    (hd : (y.cls ≠ "java/lang/invoke/MethodHandle" ∧ y.cls ≠ "java/lang/invoke/VarHandle") ∧ (parseMethodDescriptor y.desc).map (fun d => d.parameters.length) = some na) : CsV own idx y cy ny rety na := by
  refine ⟨fun w hw => ?_, hd⟩
  unfold wsV at hw
  simp only [List.cons_append, List.nil_append, List.mem_cons, List.not_mem_nil, or_false] at hw
  rcases hw with rfl | rfl | rfl | rfl | rfl
  · exact ⟨tw_in w1 rfl, Or.inl rfl⟩
  · exact ⟨tw_in w2 rfl, Or.inl rfl⟩
  · exact ⟨tw_in w3 rfl, Or.inl rfl⟩
  · exact ⟨tw_in w4 rfl, Or.inl rfl⟩
  · exact ⟨tw_in w5 rfl, Or.inl rfl⟩
theorem csS_of {own : String} {idx : Nat} {y : MethodName} {cy : ByteArray} {ny : Nat} {rety : Option FieldType} {na : Nat} (w1 : Cond.methodLink own idx y ∈ lw_tbl) (w2 : Cond.static y ∈ lw_tbl) (w4 : Cond.initialized y.cls ∈ lw_tbl) (w5 : Cond.code y cy ny rety ∈ lw_tbl)
    (hd : (y.cls ≠ "java/lang/invoke/MethodHandle" ∧ y.cls ≠ "java/lang/invoke/VarHandle") ∧ (parseMethodDescriptor y.desc).map (fun d => d.parameters.length) = some na) : CsS own idx y cy ny rety na := by
  refine ⟨fun w hw => ?_, hd⟩
  unfold va_wsS at hw
  simp only [List.cons_append, List.nil_append, List.mem_cons, List.not_mem_nil, or_false] at hw
  rcases hw with rfl | rfl | rfl | rfl
  · exact ⟨tw_in w1 rfl, Or.inl rfl⟩
  · exact ⟨tw_in w2 rfl, Or.inl rfl⟩
  · exact ⟨tw_in w4 rfl, Or.inl rfl⟩
  · exact ⟨tw_in w5 rfl, Or.inl rfl⟩
section RC
variable {X : XX} {G : GG} {Z : ZZ} {M : Mem} {k n : Nat} {Q : State → Prop} {pc : Nat} {L : List (Nat × Value)} {st : List Value} {own : String} {cc : ByteArray} {ret : Option FieldType} {d mc ms nL : Nat}
variable {y : MethodName} {cy : ByteArray} {ny dy na idx : Nat} {rety : Option FieldType} {As : List Value}
theorem r_callVI {β : Type} {f : Option (Int32 × Mem)} {K : Int32 → Mem → Option β} {res : β} (rest : List Value) (C : ∀ (r : Int32) (M1 : Mem), f = some (r, M1) → CN (QcI G Z r M1) (xl X) G Z y cy ny rety dy As M) (hf : ob f K = some res) (cs : CsV own idx y cy ny rety na) (hC : Cx X G own cc ret d mc ms nL) {i ci N : Nat} {F : Nat → Option (Option Nat)} {q0 : vw_C} (hi : At Z i (.inl (ci, N, F))) (hc : vwCl[ci]? = some q0) (hq : q0.1 = y.cls) (As' : List Value) (hAs : As = .ref (Z.1 i) :: As') (hn : As'.length = na) (hst : st = As'.reverse ++ .ref (Z.1 i) :: rest) (hd : dy + 1 ≤ d) (hlo : 8 + (ny + 11) + 40 * dy ≤ 40 * d) (hrest : (rest.map fun v => v.category).sum ≤ 8) (hk : k ≤ mc) (hm : n ≤ ms) (hdg : decode cc pc = .ok (.invokevirtual idx, 3))
    (kk : ∀ (r : Int32) (M1 : Mem), K r M1 = some res → V X G Z M1 k n Q (pc + 3) L (.int r :: rest)) : V X G Z M k n Q pc L st := by
  cases f with
  | none => cases hf
  | some p =>
    obtain ⟨r0, M1⟩ := p
    have C := C r0 M1 rfl
    have kk := kk r0 M1 hf
    have hC0 := hC
    obtain ⟨⟨hx, hb, hr, hml, hn'⟩, hown, htw, hlk, hK, hA, hsg, hst', hR⟩ := hC
    obtain ⟨g1, g2, g3⟩ := cs
    subst hst
    subst hAs
    intro H locs ls hP hS hl
    have hR1 : (xR X).frames = d := by rw [hR]; rfl
    have hR2 : (xR X).locals = 40 * d := by rw [hR]; rfl
    have hR3 : (xR X).cells = mc := by rw [hR]; rfl
    have hR4 : (xR X).slots = ms := by rw [hR]; rfl
    obtain ⟨q, -, hq1⟩ := wv_get (G := G) (M := M) hi
    have cw := cwV (R := xR X) (rm := rmd dy 0 0) (mc := 0) (ms := 0) na (htw.use (xa X)) g1 rfl rfl rfl ⟨rfl, g2.1, g2.2, g3⟩ ⟨by rw [hR1]; exact hd, by rw [hR2]; exact hlo⟩
    have run := va_runV (own := own) (C := y.cls) (g := F0 (xm X) pc ls (As'.reverse ++ .ref (Z.1 i) :: rest)) (H := H) (locs := locs) (cells := k) (slots := n) (e := xe X) (below := xb X) (meth := xM X) ⟨hx, hb, hml, hown, htw.use (xa X)⟩ C cw ⟨Wd.blind _, by have h9 := va_recv hK hP hc hq1; rw [hq] at h9; exact h9, fun U hU hW => ⟨rfl, Wd.mk hC0 hP hS hU hW⟩⟩ rfl hn (by show ls.size = nL; rw [hl.1, hn']) rfl (lv_room hrest) hdg ⟨by rw [hR3]; exact hk, by rw [hR4]; exact hm⟩
    refine va_calli run hS (fun q _ h => h) (fun q h => h) (fun r u t H1 locs1 ht hvm he hB _ _ hS1 => ?_)
    subst he; subst ht
    exact kk t.heap locs1 ls hB hS1 hl
theorem r_callVV {β : Type} {f : Option (Unit × Mem)} {K : Unit → Mem → Option β} {res : β} (rest : List Value) (C : ∀ (r : Unit) (M1 : Mem), f = some (r, M1) → CN (QcV G Z r M1) (xl X) G Z y cy ny rety dy As M) (hf : ob f K = some res) (cs : CsV own idx y cy ny rety na) (hC : Cx X G own cc ret d mc ms nL) {i ci N : Nat} {F : Nat → Option (Option Nat)} {q0 : vw_C} (hi : At Z i (.inl (ci, N, F))) (hc : vwCl[ci]? = some q0) (hq : q0.1 = y.cls) (As' : List Value) (hAs : As = .ref (Z.1 i) :: As') (hn : As'.length = na) (hst : st = As'.reverse ++ .ref (Z.1 i) :: rest) (hd : dy + 1 ≤ d) (hlo : 8 + (ny + 11) + 40 * dy ≤ 40 * d) (hrest : (rest.map fun v => v.category).sum ≤ 8) (hk : k ≤ mc) (hm : n ≤ ms) (hdg : decode cc pc = .ok (.invokevirtual idx, 3))
    (kk : ∀ (r : Unit) (M1 : Mem), K r M1 = some res → V X G Z M1 k n Q (pc + 3) L rest) : V X G Z M k n Q pc L st := by
  cases f with
  | none => cases hf
  | some p =>
    obtain ⟨r0, M1⟩ := p
    have C := C r0 M1 rfl
    have kk := kk r0 M1 hf
    have hC0 := hC
    obtain ⟨⟨hx, hb, hr, hml, hn'⟩, hown, htw, hlk, hK, hA, hsg, hst', hR⟩ := hC
    obtain ⟨g1, g2, g3⟩ := cs
    subst hst
    subst hAs
    intro H locs ls hP hS hl
    have hR1 : (xR X).frames = d := by rw [hR]; rfl
    have hR2 : (xR X).locals = 40 * d := by rw [hR]; rfl
    have hR3 : (xR X).cells = mc := by rw [hR]; rfl
    have hR4 : (xR X).slots = ms := by rw [hR]; rfl
    obtain ⟨q, -, hq1⟩ := wv_get (G := G) (M := M) hi
    have cw := cwV (R := xR X) (rm := rmd dy 0 0) (mc := 0) (ms := 0) na (htw.use (xa X)) g1 rfl rfl rfl ⟨rfl, g2.1, g2.2, g3⟩ ⟨by rw [hR1]; exact hd, by rw [hR2]; exact hlo⟩
    have run := va_runV (own := own) (C := y.cls) (g := F0 (xm X) pc ls (As'.reverse ++ .ref (Z.1 i) :: rest)) (H := H) (locs := locs) (cells := k) (slots := n) (e := xe X) (below := xb X) (meth := xM X) ⟨hx, hb, hml, hown, htw.use (xa X)⟩ C cw ⟨Wd.blind _, by have h9 := va_recv hK hP hc hq1; rw [hq] at h9; exact h9, fun U hU hW => ⟨rfl, Wd.mk hC0 hP hS hU hW⟩⟩ rfl hn (by show ls.size = nL; rw [hl.1, hn']) rfl (lv_room hrest) hdg ⟨by rw [hR3]; exact hk, by rw [hR4]; exact hm⟩
    refine va_callv run hS (fun q _ h => h) (fun q h => h) (fun u t H1 locs1 ht hvm he hB _ _ hS1 => ?_)
    subst ht
    exact kk t.heap locs1 ls hB hS1 hl
theorem r_callVR {β : Type} {f : Option (Nat × Mem)} {K : Nat → Mem → Option β} {res : β} {ido : Nat → Nat} (rest : List Value) (C : ∀ (r : Nat) (M1 : Mem), f = some (r, M1) → CN (QcR ido G Z r M1) (xl X) G Z y cy ny rety dy As M) (hf : ob f K = some res) (cs : CsV own idx y cy ny rety na) (hC : Cx X G own cc ret d mc ms nL) {i ci N : Nat} {F : Nat → Option (Option Nat)} {q0 : vw_C} (hi : At Z i (.inl (ci, N, F))) (hc : vwCl[ci]? = some q0) (hq : q0.1 = y.cls) (As' : List Value) (hAs : As = .ref (Z.1 i) :: As') (hn : As'.length = na) (hst : st = As'.reverse ++ .ref (Z.1 i) :: rest) (hd : dy + 1 ≤ d) (hlo : 8 + (ny + 11) + 40 * dy ≤ 40 * d) (hrest : (rest.map fun v => v.category).sum ≤ 8) (hk : k ≤ mc) (hm : n ≤ ms) (hdg : decode cc pc = .ok (.invokevirtual idx, 3))
    (kk : ∀ (r : Nat) (M1 : Mem), K r M1 = some res → V X G Z M1 k n Q (pc + 3) L (.ref (Z.1 (ido r)) :: rest)) : V X G Z M k n Q pc L st := by
  cases f with
  | none => cases hf
  | some p =>
    obtain ⟨r0, M1⟩ := p
    have C := C r0 M1 rfl
    have kk := kk r0 M1 hf
    have hC0 := hC
    obtain ⟨⟨hx, hb, hr, hml, hn'⟩, hown, htw, hlk, hK, hA, hsg, hst', hR⟩ := hC
    obtain ⟨g1, g2, g3⟩ := cs
    subst hst
    subst hAs
    intro H locs ls hP hS hl
    have hR1 : (xR X).frames = d := by rw [hR]; rfl
    have hR2 : (xR X).locals = 40 * d := by rw [hR]; rfl
    have hR3 : (xR X).cells = mc := by rw [hR]; rfl
    have hR4 : (xR X).slots = ms := by rw [hR]; rfl
    obtain ⟨q, -, hq1⟩ := wv_get (G := G) (M := M) hi
    have cw := cwV (R := xR X) (rm := rmd dy 0 0) (mc := 0) (ms := 0) na (htw.use (xa X)) g1 rfl rfl rfl ⟨rfl, g2.1, g2.2, g3⟩ ⟨by rw [hR1]; exact hd, by rw [hR2]; exact hlo⟩
    have run := va_runV (own := own) (C := y.cls) (g := F0 (xm X) pc ls (As'.reverse ++ .ref (Z.1 i) :: rest)) (H := H) (locs := locs) (cells := k) (slots := n) (e := xe X) (below := xb X) (meth := xM X) ⟨hx, hb, hml, hown, htw.use (xa X)⟩ C cw ⟨Wd.blind _, by have h9 := va_recv hK hP hc hq1; rw [hq] at h9; exact h9, fun U hU hW => ⟨rfl, Wd.mk hC0 hP hS hU hW⟩⟩ rfl hn (by show ls.size = nL; rw [hl.1, hn']) rfl (lv_room hrest) hdg ⟨by rw [hR3]; exact hk, by rw [hR4]; exact hm⟩
    refine va_callr run hS (fun q _ h => h) (fun q h => h) (fun u ra t H1 locs1 ht hvm he hB _ _ hS1 => ?_)
    obtain ⟨rfl, hB⟩ := hB
    subst ht
    exact kk t.heap locs1 ls hB hS1 hl
theorem r_callSI {β : Type} {f : Option (Int32 × Mem)} {K : Int32 → Mem → Option β} {res : β} (rest : List Value) (C : ∀ (r : Int32) (M1 : Mem), f = some (r, M1) → CN (QcI G Z r M1) (xl X) G Z y cy ny rety dy As M) (hf : ob f K = some res) (cs : CsS own idx y cy ny rety na) (hC : Cx X G own cc ret d mc ms nL) (hn : As.length = na) (hst : st = As.reverse ++ rest) (hd : dy + 1 ≤ d) (hlo : 8 + (ny + 11) + 40 * dy ≤ 40 * d) (hrest : (rest.map fun v => v.category).sum ≤ 8) (hk : k ≤ mc) (hm : n ≤ ms) (hdg : decode cc pc = .ok (.invokestatic idx, 3))
    (kk : ∀ (r : Int32) (M1 : Mem), K r M1 = some res → V X G Z M1 k n Q (pc + 3) L (.int r :: rest)) : V X G Z M k n Q pc L st := by
  cases f with
  | none => cases hf
  | some p =>
    obtain ⟨r0, M1⟩ := p
    have C := C r0 M1 rfl
    have kk := kk r0 M1 hf
    have hC0 := hC
    obtain ⟨⟨hx, hb, hr, hml, hn'⟩, hown, htw, hlk, hK, hA, hsg, hst', hR⟩ := hC
    obtain ⟨g1, g2, g3⟩ := cs
    subst hst
    intro H locs ls hP hS hl
    have hR1 : (xR X).frames = d := by rw [hR]; rfl
    have hR2 : (xR X).locals = 40 * d := by rw [hR]; rfl
    have hR3 : (xR X).cells = mc := by rw [hR]; rfl
    have hR4 : (xR X).slots = ms := by rw [hR]; rfl
    have cw := va_cwS (R := xR X) (rm := rmd dy 0 0) (mc := 0) (ms := 0) na (htw.use (xa X)) g1 rfl rfl rfl ⟨g2.1, g2.2, g3⟩ ⟨by rw [hR1]; exact hd, by rw [hR2]; exact hlo⟩
    have run := va_runS (own := own) (g := F0 (xm X) pc ls (As.reverse ++ rest)) (H := H) (locs := locs) (cells := k) (slots := n) (e := xe X) (below := xb X) (meth := xM X) ⟨hx, hb, hml, hown, htw.use (xa X)⟩ C cw ⟨Wd.blind _, fun U hU hW => ⟨rfl, Wd.mk hC0 hP hS hU hW⟩⟩ rfl hn (by show ls.size = nL; rw [hl.1, hn']) rfl (lv_room hrest) hdg ⟨by rw [hR3]; exact hk, by rw [hR4]; exact hm⟩
    refine va_calli run hS (fun q _ h => h) (fun q h => h) (fun r u t H1 locs1 ht hvm he hB _ _ hS1 => ?_)
    subst he; subst ht
    exact kk t.heap locs1 ls hB hS1 hl
theorem r_callSL {β : Type} {f : Option (Int64 × Mem)} {K : Int64 → Mem → Option β} {res : β} (rest : List Value) (C : ∀ (r : Int64) (M1 : Mem), f = some (r, M1) → CN (QcL G Z r M1) (xl X) G Z y cy ny rety dy As M) (hf : ob f K = some res) (cs : CsS own idx y cy ny rety na) (hC : Cx X G own cc ret d mc ms nL) (hn : As.length = na) (hst : st = As.reverse ++ rest) (hd : dy + 1 ≤ d) (hlo : 8 + (ny + 11) + 40 * dy ≤ 40 * d) (hrest : (rest.map fun v => v.category).sum ≤ 8) (hk : k ≤ mc) (hm : n ≤ ms) (hdg : decode cc pc = .ok (.invokestatic idx, 3))
    (kk : ∀ (r : Int64) (M1 : Mem), K r M1 = some res → V X G Z M1 k n Q (pc + 3) L (.long r :: rest)) : V X G Z M k n Q pc L st := by
  cases f with
  | none => cases hf
  | some p =>
    obtain ⟨r0, M1⟩ := p
    have C := C r0 M1 rfl
    have kk := kk r0 M1 hf
    have hC0 := hC
    obtain ⟨⟨hx, hb, hr, hml, hn'⟩, hown, htw, hlk, hK, hA, hsg, hst', hR⟩ := hC
    obtain ⟨g1, g2, g3⟩ := cs
    subst hst
    intro H locs ls hP hS hl
    have hR1 : (xR X).frames = d := by rw [hR]; rfl
    have hR2 : (xR X).locals = 40 * d := by rw [hR]; rfl
    have hR3 : (xR X).cells = mc := by rw [hR]; rfl
    have hR4 : (xR X).slots = ms := by rw [hR]; rfl
    have cw := va_cwS (R := xR X) (rm := rmd dy 0 0) (mc := 0) (ms := 0) na (htw.use (xa X)) g1 rfl rfl rfl ⟨g2.1, g2.2, g3⟩ ⟨by rw [hR1]; exact hd, by rw [hR2]; exact hlo⟩
    have run := va_runS (own := own) (g := F0 (xm X) pc ls (As.reverse ++ rest)) (H := H) (locs := locs) (cells := k) (slots := n) (e := xe X) (below := xb X) (meth := xM X) ⟨hx, hb, hml, hown, htw.use (xa X)⟩ C cw ⟨Wd.blind _, fun U hU hW => ⟨rfl, Wd.mk hC0 hP hS hU hW⟩⟩ rfl hn (by show ls.size = nL; rw [hl.1, hn']) rfl (lv_room hrest) hdg ⟨by rw [hR3]; exact hk, by rw [hR4]; exact hm⟩
    refine va_calll run hS (fun q _ h => h) (fun q h => h) (fun r u t H1 locs1 ht hvm he hB _ _ hS1 => ?_)
    subst he; subst ht
    exact kk t.heap locs1 ls hB hS1 hl
theorem r_callSV {β : Type} {f : Option (Unit × Mem)} {K : Unit → Mem → Option β} {res : β} (rest : List Value) (C : ∀ (r : Unit) (M1 : Mem), f = some (r, M1) → CN (QcV G Z r M1) (xl X) G Z y cy ny rety dy As M) (hf : ob f K = some res) (cs : CsS own idx y cy ny rety na) (hC : Cx X G own cc ret d mc ms nL) (hn : As.length = na) (hst : st = As.reverse ++ rest) (hd : dy + 1 ≤ d) (hlo : 8 + (ny + 11) + 40 * dy ≤ 40 * d) (hrest : (rest.map fun v => v.category).sum ≤ 8) (hk : k ≤ mc) (hm : n ≤ ms) (hdg : decode cc pc = .ok (.invokestatic idx, 3))
    (kk : ∀ (r : Unit) (M1 : Mem), K r M1 = some res → V X G Z M1 k n Q (pc + 3) L rest) : V X G Z M k n Q pc L st := by
  cases f with
  | none => cases hf
  | some p =>
    obtain ⟨r0, M1⟩ := p
    have C := C r0 M1 rfl
    have kk := kk r0 M1 hf
    have hC0 := hC
    obtain ⟨⟨hx, hb, hr, hml, hn'⟩, hown, htw, hlk, hK, hA, hsg, hst', hR⟩ := hC
    obtain ⟨g1, g2, g3⟩ := cs
    subst hst
    intro H locs ls hP hS hl
    have hR1 : (xR X).frames = d := by rw [hR]; rfl
    have hR2 : (xR X).locals = 40 * d := by rw [hR]; rfl
    have hR3 : (xR X).cells = mc := by rw [hR]; rfl
    have hR4 : (xR X).slots = ms := by rw [hR]; rfl
    have cw := va_cwS (R := xR X) (rm := rmd dy 0 0) (mc := 0) (ms := 0) na (htw.use (xa X)) g1 rfl rfl rfl ⟨g2.1, g2.2, g3⟩ ⟨by rw [hR1]; exact hd, by rw [hR2]; exact hlo⟩
    have run := va_runS (own := own) (g := F0 (xm X) pc ls (As.reverse ++ rest)) (H := H) (locs := locs) (cells := k) (slots := n) (e := xe X) (below := xb X) (meth := xM X) ⟨hx, hb, hml, hown, htw.use (xa X)⟩ C cw ⟨Wd.blind _, fun U hU hW => ⟨rfl, Wd.mk hC0 hP hS hU hW⟩⟩ rfl hn (by show ls.size = nL; rw [hl.1, hn']) rfl (lv_room hrest) hdg ⟨by rw [hR3]; exact hk, by rw [hR4]; exact hm⟩
    refine va_callv run hS (fun q _ h => h) (fun q h => h) (fun u t H1 locs1 ht hvm he hB _ _ hS1 => ?_)
    subst ht
    exact kk t.heap locs1 ls hB hS1 hl
theorem r_tcallVV {β : Type} {f : Option (Except Nat Unit × Mem)} {K : Unit → Mem → Option (Except Nat β × Mem)} {res : Except Nat β} {M' : Mem} {Qc : Array Value → State → Outcome → State → Prop} {mcy msy : Nat} (rest : List Value) (C : ∀ (r : Except Nat Unit) (M1 : Mem), f = some (r, M1) → CT (QcTV G Z r M1) (XcT G Z r M1) (xl X) G Z y cy ny rety dy mcy msy As M) (hf : oe f K = some (res, M')) (cs : CsV own idx y cy ny rety na) (hC : Cx X G own cc ret d mc ms nL) (hno : ∀ x ∈ (xc X).exceptionTable.toList, False) {i ci N : Nat} {F : Nat → Option (Option Nat)} {q0 : vw_C} (hi : At Z i (.inl (ci, N, F))) (hc : vwCl[ci]? = some q0) (hq : q0.1 = y.cls) (As' : List Value) (hAs : As = .ref (Z.1 i) :: As') (hn : As'.length = na) (hst : st = As'.reverse ++ .ref (Z.1 i) :: rest) (hd : dy + 1 ≤ d) (hlo : 8 + (ny + 11) + 40 * dy ≤ 40 * d) (hrest : (rest.map fun v => v.category).sum ≤ 8) (hk : k + mcy ≤ mc) (hm : n + msy ≤ ms) (hdg : decode cc pc = .ok (.invokevirtual idx, 3))
    (kk : ∀ (r : Unit) (M1 : Mem), K r M1 = some (res, M') → V X G Z M1 (k + mcy) (n + msy) (QT X G Qc (XcT G Z res M') mc ms) (pc + 3) L rest) : V X G Z M k n (QT X G Qc (XcT G Z res M') mc ms) pc L st := by
  cases f with
  | none => cases hf
  | some p =>
    obtain ⟨r0, M1⟩ := p
    have C := C r0 M1 rfl
    have hC0 := hC
    obtain ⟨⟨hx, hb, hr, hml, hn'⟩, hown, htw, hlk, hK, hA, hsg, hst', hR⟩ := hC
    obtain ⟨g1, g2, g3⟩ := cs
    subst hst
    subst hAs
    intro H locs ls hP hS hl
    have hR1 : (xR X).frames = d := by rw [hR]; rfl
    have hR2 : (xR X).locals = 40 * d := by rw [hR]; rfl
    have hR3 : (xR X).cells = mc := by rw [hR]; rfl
    have hR4 : (xR X).slots = ms := by rw [hR]; rfl
    obtain ⟨q, -, hq1⟩ := wv_get (G := G) (M := M) hi
    have cw := cwV (R := xR X) (rm := rmd dy mcy msy) (mc := mcy) (ms := msy) na (htw.use (xa X)) g1 rfl rfl rfl ⟨rfl, g2.1, g2.2, g3⟩ ⟨by rw [hR1]; exact hd, by rw [hR2]; exact hlo⟩
    have run := vx_runV (own := own) (C := y.cls) (g := F0 (xm X) pc ls (As'.reverse ++ .ref (Z.1 i) :: rest)) (H := H) (locs := locs) (cells := k) (slots := n) (e := xe X) (below := xb X) (meth := xM X) ⟨hx, hb, hml, hown, htw.use (xa X)⟩ C cw ⟨Wd.blind _, by have h9 := va_recv hK hP hc hq1; rw [hq] at h9; exact h9, fun U hU hW => ⟨rfl, Wd.mk hC0 hP hS hU hW⟩⟩ rfl hn (by show ls.size = nL; rw [hl.1, hn']) rfl (lv_room hrest) hdg ⟨by rw [hR3]; exact hk, by rw [hR4]; exact hm⟩
    refine vx_callv run hS (fun q _ h => h) (fun q h => h) (fun q _ h => h) (fun E ce q9 u t H1 locs1 ht hvm hu hB _ _ hS1 hce hcv hcl => ?_) (fun u t H1 locs1 ht hvm he hB _ _ hS1 => ?_)
    · subst hu
      obtain ⟨rfl, hB⟩ := hB
      cases hf
      subst ht
      exact vx_out (fun x hx => (hno x hx).elim) hlk hce hcv hcl (fun t2 ht2 hvm2 => ⟨u, rfl, ⟨rfl, by unfold Wp; rw [ht2]; exact hB⟩, hS1.F ht2⟩) hS1.2.2 hk hm
    · subst he; subst ht
      exact kk () M1 hf t.heap locs1 ls hB hS1 hl
theorem r_tcallSV {β : Type} {f : Option (Except Nat Unit × Mem)} {K : Unit → Mem → Option (Except Nat β × Mem)} {res : Except Nat β} {M' : Mem} {Qc : Array Value → State → Outcome → State → Prop} {mcy msy : Nat} (rest : List Value) (C : ∀ (r : Except Nat Unit) (M1 : Mem), f = some (r, M1) → CT (QcTV G Z r M1) (XcT G Z r M1) (xl X) G Z y cy ny rety dy mcy msy As M) (hf : oe f K = some (res, M')) (cs : CsS own idx y cy ny rety na) (hC : Cx X G own cc ret d mc ms nL) (hno : ∀ x ∈ (xc X).exceptionTable.toList, False) (hn : As.length = na) (hst : st = As.reverse ++ rest) (hd : dy + 1 ≤ d) (hlo : 8 + (ny + 11) + 40 * dy ≤ 40 * d) (hrest : (rest.map fun v => v.category).sum ≤ 8) (hk : k + mcy ≤ mc) (hm : n + msy ≤ ms) (hdg : decode cc pc = .ok (.invokestatic idx, 3))
    (kk : ∀ (r : Unit) (M1 : Mem), K r M1 = some (res, M') → V X G Z M1 (k + mcy) (n + msy) (QT X G Qc (XcT G Z res M') mc ms) (pc + 3) L rest) : V X G Z M k n (QT X G Qc (XcT G Z res M') mc ms) pc L st := by
  cases f with
  | none => cases hf
  | some p =>
    obtain ⟨r0, M1⟩ := p
    have C := C r0 M1 rfl
    have hC0 := hC
    obtain ⟨⟨hx, hb, hr, hml, hn'⟩, hown, htw, hlk, hK, hA, hsg, hst', hR⟩ := hC
    obtain ⟨g1, g2, g3⟩ := cs
    subst hst
    intro H locs ls hP hS hl
    have hR1 : (xR X).frames = d := by rw [hR]; rfl
    have hR2 : (xR X).locals = 40 * d := by rw [hR]; rfl
    have hR3 : (xR X).cells = mc := by rw [hR]; rfl
    have hR4 : (xR X).slots = ms := by rw [hR]; rfl
    have cw := va_cwS (R := xR X) (rm := rmd dy mcy msy) (mc := mcy) (ms := msy) na (htw.use (xa X)) g1 rfl rfl rfl ⟨g2.1, g2.2, g3⟩ ⟨by rw [hR1]; exact hd, by rw [hR2]; exact hlo⟩
    have run := vx_runS (own := own) (g := F0 (xm X) pc ls (As.reverse ++ rest)) (H := H) (locs := locs) (cells := k) (slots := n) (e := xe X) (below := xb X) (meth := xM X) ⟨hx, hb, hml, hown, htw.use (xa X)⟩ C cw ⟨Wd.blind _, fun U hU hW => ⟨rfl, Wd.mk hC0 hP hS hU hW⟩⟩ rfl hn (by show ls.size = nL; rw [hl.1, hn']) rfl (lv_room hrest) hdg ⟨by rw [hR3]; exact hk, by rw [hR4]; exact hm⟩
    refine vx_callv run hS (fun q _ h => h) (fun q h => h) (fun q _ h => h) (fun E ce q9 u t H1 locs1 ht hvm hu hB _ _ hS1 hce hcv hcl => ?_) (fun u t H1 locs1 ht hvm he hB _ _ hS1 => ?_)
    · subst hu
      obtain ⟨rfl, hB⟩ := hB
      cases hf
      subst ht
      exact vx_out (fun x hx => (hno x hx).elim) hlk hce hcv hcl (fun t2 ht2 hvm2 => ⟨u, rfl, ⟨rfl, by unfold Wp; rw [ht2]; exact hB⟩, hS1.F ht2⟩) hS1.2.2 hk hm
    · subst he; subst ht
      exact kk () M1 hf t.heap locs1 ls hB hS1 hl
end RC
end
section
section RX
variable {X : XX} {G : GG} {Z : ZZ} {M M' : Mem} {k n : Nat} {pc : Nat} {L : List (Nat × Value)} {own : String} {cc : ByteArray} {ret : Option FieldType} {d mc ms nL : Nat}
theorem r_iret {x r : Int32} (hf : some (x, M) = some (r, M')) (hC : Cx X G own cc ret d mc ms nL) (hk : k ≤ mc) (hm : n ≤ ms) (hdg : decode cc pc = .ok (.ireturn, 1)) (he : ret = some .int := by rfl) : V X G Z M k n (QN X G (QcI G Z r M') mc ms) pc L [.int x] := by
  cases hf
  obtain ⟨⟨hx, hb, hr, hml, hn⟩, hown, htw, hlk, hK, hA, hsg, hst, hR⟩ := hC
  intro H locs ls hP hS hl
  refine W.widen hk hm ?_
  exact W.iret hx hb (by rw [hr, he]) (fun t ht hW => ⟨⟨x, (), rfl, rfl, by show va_P _ _ _ t.heap; rw [ht]; exact hP⟩, hS.F ht⟩) hS.2.2 hdg hlk
theorem r_zret {x r : Int32} (hf : some (x, M) = some (r, M')) (hC : Cx X G own cc ret d mc ms nL) {ty : FieldType} (he : ret = some ty) (hnr : narrow ty (.int x) = .int x) (hk : k ≤ mc) (hm : n ≤ ms) (hdg : decode cc pc = .ok (.ireturn, 1)) : V X G Z M k n (QN X G (QcI G Z r M') mc ms) pc L [.int x] := by
  cases hf
  obtain ⟨⟨hx, hb, hr, hml, hn⟩, hown, htw, hlk, hK, hA, hsg, hst, hR⟩ := hC
  intro H locs ls hP hS hl
  refine W.widen hk hm ?_
  exact W.zret hx hb (by rw [hr, he]) hnr (fun t ht hW => ⟨⟨x, (), rfl, rfl, by show va_P _ _ _ t.heap; rw [ht]; exact hP⟩, hS.F ht⟩) hS.2.2 hdg hlk
theorem r_lret {x r : Int64} (hf : some (x, M) = some (r, M')) (hC : Cx X G own cc ret d mc ms nL) (hk : k ≤ mc) (hm : n ≤ ms) (hdg : decode cc pc = .ok (.lreturn, 1)) (he : ret = some .long := by rfl) : V X G Z M k n (QN X G (QcL G Z r M') mc ms) pc L [.long x] := by
  cases hf
  obtain ⟨⟨hx, hb, hr, hml, hn⟩, hown, htw, hlk, hK, hA, hsg, hst, hR⟩ := hC
  intro H locs ls hP hS hl
  refine W.widen hk hm ?_
  exact W.lret hx hb (by rw [hr, he]) (fun t ht hW => ⟨⟨x, (), rfl, rfl, by show va_P _ _ _ t.heap; rw [ht]; exact hP⟩, hS.F ht⟩) hS.2.2 hdg hlk
theorem r_vret {x r : Unit} {rest : List Value} (hf : some (x, M) = some (r, M')) (hC : Cx X G own cc ret d mc ms nL) (hk : k ≤ mc) (hm : n ≤ ms) (hdg : decode cc pc = .ok (.return_, 1)) (he : ret = none := by rfl) (hrest : rest = [] := by rfl) : V X G Z M k n (QN X G (QcV G Z r M') mc ms) pc L rest := by
  cases hf
  obtain ⟨⟨hx, hb, hr, hml, hn⟩, hown, htw, hlk, hK, hA, hsg, hst, hR⟩ := hC
  intro H locs ls hP hS hl
  subst hrest
  refine W.widen hk hm ?_
  exact W.vret hx hb (by rw [hr, he]) (fun t ht hW => ⟨⟨(), rfl, trivial, by show va_P _ _ _ t.heap; rw [ht]; exact hP⟩, hS.F ht⟩) hS.2.2 hdg hlk
theorem r_aret {ido : Nat → Nat} {x r : Nat} {C : String} (hf : some (x, M) = some (r, M')) (hC : Cx X G own cc ret d mc ms nL) (he : ret = some (.object C)) (hk : k ≤ mc) (hm : n ≤ ms) (hdg : decode cc pc = .ok (.areturn, 1)) : V X G Z M k n (QN X G (QcR ido G Z r M') mc ms) pc L [.ref (Z.1 (ido x))] := by
  cases hf
  obtain ⟨⟨hx, hb, hr, hml, hn⟩, hown, htw, hlk, hK, hA, hsg, hst, hR⟩ := hC
  intro H locs ls hP hS hl
  refine W.widen hk hm ?_
  exact W.aret hx hb (by rw [hr, he]) (Or.inl ⟨_, rfl⟩) (Or.inr ⟨_, rfl⟩) (fun t ht hW => ⟨⟨(), Z.1 (ido x), rfl, trivial, rfl, by show va_P _ _ _ t.heap; rw [ht]; exact hP⟩, hS.F ht⟩) hS.2.2 hdg hlk
theorem r_iretT {x : Int32} {res : Except Nat Int32} {Xc : String → State → State → Prop} (hf : some (Except.ok x, M) = some (res, M')) (hC : Cx X G own cc ret d mc ms nL) (hk : k ≤ mc) (hm : n ≤ ms) (hdg : decode cc pc = .ok (.ireturn, 1)) (he : ret = some .int := by rfl) : V X G Z M k n (QT X G (QcTI G Z res M') Xc mc ms) pc L [.int x] := by
  cases hf
  obtain ⟨⟨hx, hb, hr, hml, hn⟩, hown, htw, hlk, hK, hA, hsg, hst, hR⟩ := hC
  intro H locs ls hP hS hl
  refine W.widen hk hm (vx_ret ?_)
  exact W.iret hx hb (by rw [hr, he]) (fun t ht hW => ⟨⟨x, (), rfl, rfl, by show va_P _ _ _ t.heap; rw [ht]; exact hP⟩, hS.F ht⟩) hS.2.2 hdg hlk
theorem r_vretT {x : Unit} {rest : List Value} {res : Except Nat Unit} {Xc : String → State → State → Prop} (hf : some (Except.ok x, M) = some (res, M')) (hC : Cx X G own cc ret d mc ms nL) (hk : k ≤ mc) (hm : n ≤ ms) (hdg : decode cc pc = .ok (.return_, 1)) (he : ret = none := by rfl) (hrest : rest = [] := by rfl) : V X G Z M k n (QT X G (QcTV G Z res M') Xc mc ms) pc L rest := by
  cases hf
  obtain ⟨⟨hx, hb, hr, hml, hn⟩, hown, htw, hlk, hK, hA, hsg, hst, hR⟩ := hC
  intro H locs ls hP hS hl
  subst hrest
  refine W.widen hk hm (vx_ret ?_)
  exact W.vret hx hb (by rw [hr, he]) (fun t ht hW => ⟨⟨(), rfl, rfl, by show va_P _ _ _ t.heap; rw [ht]; exact hP⟩, hS.F ht⟩) hS.2.2 hdg hlk
end RX
def th_names : List String := ["java/lang/RuntimeException", "java/lang/Exception"]
def ThK (own : String) (ik ic e : Nat) : Prop := Bundle.fit (exn e) = true ∧ (∀ n ∈ th_names, Bundle.fit n = true) ∧ Cond.classLink own ik (exn e) ∈ TW ∧ Cond.initialized (exn e) ∈ TW ∧ (∀ w ∈ vx_at0 own ic (exn e) th_names, w ∈ TW) ∧ (∀ w ∈ Cond.classLink own ik (exn e) :: Cond.initialized (exn e) :: vx_at0 own ic (exn e) th_names, vx_ot w = true)
theorem r_throw {X : XX} {G : GG} {Z : ZZ} {M M' : Mem} {k n : Nat} {pc : Nat} {L : List (Nat × Value)} {own : String} {cc : ByteArray} {ret : Option FieldType} {d mc ms nL : Nat} {α : Type} {res : Except Nat α} {Qc : Array Value → State → Outcome → State → Prop} {rest : List Value} {ik ic e : Nat} (hf : some (Except.error e, M) = some (res, M')) (hC : Cx X G own cc ret d mc ms nL) (hno : ∀ x ∈ (xc X).exceptionTable.toList, False) (th : ThK own ik ic e)
    (d0 : decode cc pc = .ok (.new ik, 3)) (d3 : decode cc (pc + 3) = .ok (.dup, 1)) (d4 : decode cc (pc + 4) = .ok (.invokespecial ic, 3)) (d7 : decode cc (pc + 7) = .ok (.athrow, 1)) (hd : 6 ≤ d) (hrest : (rest.map fun v => v.category).sum ≤ 8) (hk : k + 1 ≤ mc) (hm : n + 6 ≤ ms) : V X G Z M k n (QT X G Qc (XcT G Z res M') mc ms) pc L rest := by
  cases hf
  have hC0 := hC
  obtain ⟨⟨hx, hb, hr, hml, hn⟩, hown, htw, hlk, hK, hA, hsg, hst, hR⟩ := hC
  obtain ⟨t1, t2, t3, t4, t5, t6⟩ := th
  intro H locs ls hP hS hl
  have hR1 : (xR X).frames = d := by rw [hR]; rfl
  have hR2 : (xR X).locals = 40 * d := by rw [hR]; rfl
  have hR3 : (xR X).cells = mc := by rw [hR]; rfl
  have hR4 : (xR X).slots = ms := by rw [hR]; rfl
  have hsg2 := hsg
  obtain ⟨-, -, -, hU, hN⟩ := hsg2
  refine vx_throw0 (names := th_names) hx hb hst hown t1 t2 (htw.use _ _ t3) (htw.use _ _ t4) (fun w hw => htw.use _ _ (t5 w hw)) t6 hU hN hS (by rw [hl.1, hn, hml]) d0 d3 d4 d7 (fun x hx => (hno x hx).elim) (by rw [hR1]; show 2 + 3 < d; omega) (by rw [hR2]; show _ + (13 * (2 + 1) + 42) ≤ _; omega) (by rw [hR3]; omega) (by rw [hR4]; omega) hlk (fun t hvm hsz hq => ?_) hS.2.2 hk hm
  refine ⟨e, rfl, ⟨rfl, ?_⟩, ⟨Nat.le_trans hS.1 hsz, fun q h1 h2 => (hq q (Nat.lt_of_lt_of_le h1 hS.1)).trans (hS.2.1 q h1 h2)⟩⟩
  exact hP.kept (fun i q hi => hq _ ((hP i q hi).lt))
theorem th_iae : ThK RX5 48 50 0 := ⟨by decide +kernel, by decide +kernel, by decide +kernel, by decide +kernel, by decide +kernel, by decide +kernel⟩
theorem th_ise : ThK RX5 55 57 1 := ⟨by decide +kernel, by decide +kernel, by decide +kernel, by decide +kernel, by decide +kernel, by decide +kernel⟩
theorem th_iob : ThK RX5 151 153 2 := ⟨by decide +kernel, by decide +kernel, by decide +kernel, by decide +kernel, by decide +kernel, by decide +kernel⟩
end
