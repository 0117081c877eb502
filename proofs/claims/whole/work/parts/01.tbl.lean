-- ===== PART A: goes FIRST, ahead of the names: the tables' words, and 'selects' of the private methods out of them =====
/-- a private method of a class that the tables say can be made, by its rows of tables_1 -/
def lw_okq (q : MethodName × Nat) : Prop := (q.1.cls ≠ "java/lang/invoke/MethodHandle" ∧ q.1.cls ≠ "java/lang/invoke/VarHandle") ∧ Cond.instantiable q.1.cls q.2 ∈ tables_1 ∧ Cond.privateMethod q.1 ∈ tables_1 ∧ Cond.instanceMethod q.1 ∈ tables_1
theorem lw_p0 : lw_okq (⟨"HandSpans$Text", "signAt", "(I)I"⟩, 3) := ⟨⟨by decide +kernel, by decide +kernel⟩, List.mem_of_getElem? (i := 25) (by decide +kernel), List.mem_of_getElem? (i := 216) (by decide +kernel), List.mem_of_getElem? (i := 217) (by decide +kernel)⟩
theorem lw_p1 : lw_okq (⟨"HandSpans$Text", "digitAt", "(I)I"⟩, 3) := ⟨⟨by decide +kernel, by decide +kernel⟩, List.mem_of_getElem? (i := 25) (by decide +kernel), List.mem_of_getElem? (i := 220) (by decide +kernel), List.mem_of_getElem? (i := 221) (by decide +kernel)⟩
theorem lw_p2 : lw_okq (⟨"HandSpans$Text", "readCell", "(LHandSpans$State;II)Z"⟩, 3) := ⟨⟨by decide +kernel, by decide +kernel⟩, List.mem_of_getElem? (i := 25) (by decide +kernel), List.mem_of_getElem? (i := 225) (by decide +kernel), List.mem_of_getElem? (i := 226) (by decide +kernel)⟩
theorem lw_p3 : lw_okq (⟨"HandSpans", "numberOfTrial", "(I)I"⟩, 7) := ⟨⟨by decide +kernel, by decide +kernel⟩, List.mem_of_getElem? (i := 17) (by decide +kernel), List.mem_of_getElem? (i := 271) (by decide +kernel), List.mem_of_getElem? (i := 272) (by decide +kernel)⟩
theorem lw_p4 : lw_okq (⟨"HandSpans$Chord", "readSettings", "(LHandSpans$State;)V"⟩, 14) := ⟨⟨by decide +kernel, by decide +kernel⟩, List.mem_of_getElem? (i := 83) (by decide +kernel), List.mem_of_getElem? (i := 283) (by decide +kernel), List.mem_of_getElem? (i := 284) (by decide +kernel)⟩
theorem lw_p5 : lw_okq (⟨"HandSpans$Chord", "readNotes", "(LHandSpans$State;I)V"⟩, 14) := ⟨⟨by decide +kernel, by decide +kernel⟩, List.mem_of_getElem? (i := 83) (by decide +kernel), List.mem_of_getElem? (i := 291) (by decide +kernel), List.mem_of_getElem? (i := 292) (by decide +kernel)⟩
theorem lw_p6 : lw_okq (⟨"HandSpans$Chord", "reasonFor", "(II)I"⟩, 14) := ⟨⟨by decide +kernel, by decide +kernel⟩, List.mem_of_getElem? (i := 83) (by decide +kernel), List.mem_of_getElem? (i := 300) (by decide +kernel), List.mem_of_getElem? (i := 301) (by decide +kernel)⟩
theorem lw_p7 : lw_okq (⟨"HandSpans$Chord", "share", "()V"⟩, 14) := ⟨⟨by decide +kernel, by decide +kernel⟩, List.mem_of_getElem? (i := 83) (by decide +kernel), List.mem_of_getElem? (i := 307) (by decide +kernel), List.mem_of_getElem? (i := 308) (by decide +kernel)⟩
theorem lw_p8 : lw_okq (⟨"HandSpans$Chord", "insert", "(I)V"⟩, 14) := ⟨⟨by decide +kernel, by decide +kernel⟩, List.mem_of_getElem? (i := 83) (by decide +kernel), List.mem_of_getElem? (i := 311) (by decide +kernel), List.mem_of_getElem? (i := 312) (by decide +kernel)⟩
theorem lw_p9 : lw_okq (⟨"HandSpans$Chord", "measure", "(IIII)V"⟩, 14) := ⟨⟨by decide +kernel, by decide +kernel⟩, List.mem_of_getElem? (i := 83) (by decide +kernel), List.mem_of_getElem? (i := 315) (by decide +kernel), List.mem_of_getElem? (i := 316) (by decide +kernel)⟩
theorem lw_p10 : lw_okq (⟨"HandSpans$Chord", "canPlay", "(II)Z"⟩, 14) := ⟨⟨by decide +kernel, by decide +kernel⟩, List.mem_of_getElem? (i := 83) (by decide +kernel), List.mem_of_getElem? (i := 319) (by decide +kernel), List.mem_of_getElem? (i := 320) (by decide +kernel)⟩
theorem lw_p11 : lw_okq (⟨"HandSpans$Reduction", "lookAhead", "(Z)V"⟩, 5) := ⟨⟨by decide +kernel, by decide +kernel⟩, List.mem_of_getElem? (i := 76) (by decide +kernel), List.mem_of_getElem? (i := 332) (by decide +kernel), List.mem_of_getElem? (i := 333) (by decide +kernel)⟩
theorem lw_p12 : lw_okq (⟨"HandSpans$Reduction", "chordAt", "(I)LHandSpans$Chord;"⟩, 5) := ⟨⟨by decide +kernel, by decide +kernel⟩, List.mem_of_getElem? (i := 76) (by decide +kernel), List.mem_of_getElem? (i := 336) (by decide +kernel), List.mem_of_getElem? (i := 337) (by decide +kernel)⟩
theorem lw_p13 : lw_okq (⟨"HandSpans$Reduction", "bestSplit", "(ILHandSpans$Chord;I)I"⟩, 5) := ⟨⟨by decide +kernel, by decide +kernel⟩, List.mem_of_getElem? (i := 76) (by decide +kernel), List.mem_of_getElem? (i := 344) (by decide +kernel), List.mem_of_getElem? (i := 345) (by decide +kernel)⟩
theorem lw_p14 : lw_okq (⟨"HandSpans$Reduction", "splitAt", "(I)I"⟩, 5) := ⟨⟨by decide +kernel, by decide +kernel⟩, List.mem_of_getElem? (i := 76) (by decide +kernel), List.mem_of_getElem? (i := 375) (by decide +kernel), List.mem_of_getElem? (i := 376) (by decide +kernel)⟩
theorem lw_p15 : lw_okq (⟨"HandSpans$Reduction", "shareOfBeat", "(II)I"⟩, 5) := ⟨⟨by decide +kernel, by decide +kernel⟩, List.mem_of_getElem? (i := 76) (by decide +kernel), List.mem_of_getElem? (i := 383) (by decide +kernel), List.mem_of_getElem? (i := 384) (by decide +kernel)⟩
def lw_privs_1 : List (MethodName × Nat) := [(⟨"HandSpans$Text", "signAt", "(I)I"⟩, 3), (⟨"HandSpans$Text", "digitAt", "(I)I"⟩, 3), (⟨"HandSpans$Text", "readCell", "(LHandSpans$State;II)Z"⟩, 3), (⟨"HandSpans", "numberOfTrial", "(I)I"⟩, 7), (⟨"HandSpans$Chord", "readSettings", "(LHandSpans$State;)V"⟩, 14), (⟨"HandSpans$Chord", "readNotes", "(LHandSpans$State;I)V"⟩, 14), (⟨"HandSpans$Chord", "reasonFor", "(II)I"⟩, 14), (⟨"HandSpans$Chord", "share", "()V"⟩, 14), (⟨"HandSpans$Chord", "insert", "(I)V"⟩, 14), (⟨"HandSpans$Chord", "measure", "(IIII)V"⟩, 14), (⟨"HandSpans$Chord", "canPlay", "(II)Z"⟩, 14), (⟨"HandSpans$Reduction", "lookAhead", "(Z)V"⟩, 5), (⟨"HandSpans$Reduction", "chordAt", "(I)LHandSpans$Chord;"⟩, 5), (⟨"HandSpans$Reduction", "bestSplit", "(ILHandSpans$Chord;I)I"⟩, 5), (⟨"HandSpans$Reduction", "splitAt", "(I)I"⟩, 5), (⟨"HandSpans$Reduction", "shareOfBeat", "(II)I"⟩, 5)]
theorem lw_r1 : ∀ q ∈ lw_privs_1, lw_okq q := List.forall_mem_cons.mpr ⟨lw_p0, List.forall_mem_cons.mpr ⟨lw_p1, List.forall_mem_cons.mpr ⟨lw_p2, List.forall_mem_cons.mpr ⟨lw_p3, List.forall_mem_cons.mpr ⟨lw_p4, List.forall_mem_cons.mpr ⟨lw_p5, List.forall_mem_cons.mpr ⟨lw_p6, List.forall_mem_cons.mpr ⟨lw_p7, List.forall_mem_cons.mpr ⟨lw_p8, List.forall_mem_cons.mpr ⟨lw_p9, List.forall_mem_cons.mpr ⟨lw_p10, List.forall_mem_cons.mpr ⟨lw_p11, List.forall_mem_cons.mpr ⟨lw_p12, List.forall_mem_cons.mpr ⟨lw_p13, List.forall_mem_cons.mpr ⟨lw_p14, List.forall_mem_cons.mpr ⟨lw_p15, fun _ h => absurd h List.not_mem_nil⟩⟩⟩⟩⟩⟩⟩⟩⟩⟩⟩⟩⟩⟩⟩⟩
theorem lw_p16 : lw_okq (⟨"HandSpans$Reduction", "costs", "(I)I"⟩, 5) := ⟨⟨by decide +kernel, by decide +kernel⟩, List.mem_of_getElem? (i := 76) (by decide +kernel), List.mem_of_getElem? (i := 387) (by decide +kernel), List.mem_of_getElem? (i := 388) (by decide +kernel)⟩
theorem lw_p17 : lw_okq (⟨"HandSpans$Reduction", "cutStaves", "(I)I"⟩, 5) := ⟨⟨by decide +kernel, by decide +kernel⟩, List.mem_of_getElem? (i := 76) (by decide +kernel), List.mem_of_getElem? (i := 391) (by decide +kernel), List.mem_of_getElem? (i := 392) (by decide +kernel)⟩
theorem lw_p18 : lw_okq (⟨"HandSpans$Reduction", "move", "(II)I"⟩, 5) := ⟨⟨by decide +kernel, by decide +kernel⟩, List.mem_of_getElem? (i := 76) (by decide +kernel), List.mem_of_getElem? (i := 398) (by decide +kernel), List.mem_of_getElem? (i := 399) (by decide +kernel)⟩
theorem lw_p19 : lw_okq (⟨"java/lang/Throwable", "fillInStackTrace", "(I)Ljava/lang/Throwable;"⟩, 6) := ⟨⟨by decide +kernel, by decide +kernel⟩, List.mem_of_getElem? (i := 464) (by decide +kernel), List.mem_of_getElem? (i := 462) (by decide +kernel), List.mem_of_getElem? (i := 463) (by decide +kernel)⟩
theorem lw_p20 : lw_okq (⟨"HandSpans", "requireCell", "(II)V"⟩, 7) := ⟨⟨by decide +kernel, by decide +kernel⟩, List.mem_of_getElem? (i := 17) (by decide +kernel), List.mem_of_getElem? (i := 554) (by decide +kernel), List.mem_of_getElem? (i := 555) (by decide +kernel)⟩
theorem lw_p21 : lw_okq (⟨"HandSpans", "requireStaff", "(I)V"⟩, 7) := ⟨⟨by decide +kernel, by decide +kernel⟩, List.mem_of_getElem? (i := 17) (by decide +kernel), List.mem_of_getElem? (i := 558) (by decide +kernel), List.mem_of_getElem? (i := 559) (by decide +kernel)⟩
theorem lw_p22 : lw_okq (⟨"HandSpans", "requireBeat", "(I)V"⟩, 7) := ⟨⟨by decide +kernel, by decide +kernel⟩, List.mem_of_getElem? (i := 17) (by decide +kernel), List.mem_of_getElem? (i := 578) (by decide +kernel), List.mem_of_getElem? (i := 579) (by decide +kernel)⟩
theorem lw_p23 : lw_okq (⟨"HandSpans", "succeeds", "(I)Z"⟩, 7) := ⟨⟨by decide +kernel, by decide +kernel⟩, List.mem_of_getElem? (i := 17) (by decide +kernel), List.mem_of_getElem? (i := 769) (by decide +kernel), List.mem_of_getElem? (i := 770) (by decide +kernel)⟩
theorem lw_p24 : lw_okq (⟨"HandSpans", "triedSetting", "(II)Z"⟩, 7) := ⟨⟨by decide +kernel, by decide +kernel⟩, List.mem_of_getElem? (i := 17) (by decide +kernel), List.mem_of_getElem? (i := 773) (by decide +kernel), List.mem_of_getElem? (i := 774) (by decide +kernel)⟩
theorem lw_p25 : lw_okq (⟨"HandSpans", "triedCell", "(III)Z"⟩, 7) := ⟨⟨by decide +kernel, by decide +kernel⟩, List.mem_of_getElem? (i := 17) (by decide +kernel), List.mem_of_getElem? (i := 777) (by decide +kernel), List.mem_of_getElem? (i := 778) (by decide +kernel)⟩
theorem lw_p26 : lw_okq (⟨"HandSpans", "triedExchange", "(II)Z"⟩, 7) := ⟨⟨by decide +kernel, by decide +kernel⟩, List.mem_of_getElem? (i := 17) (by decide +kernel), List.mem_of_getElem? (i := 782) (by decide +kernel), List.mem_of_getElem? (i := 783) (by decide +kernel)⟩
theorem lw_p27 : lw_okq (⟨"HandSpans", "triedRemoval", "(I)Z"⟩, 7) := ⟨⟨by decide +kernel, by decide +kernel⟩, List.mem_of_getElem? (i := 17) (by decide +kernel), List.mem_of_getElem? (i := 786) (by decide +kernel), List.mem_of_getElem? (i := 787) (by decide +kernel)⟩
theorem lw_p28 : lw_okq (⟨"HandSpans", "simulateRound", "(I)V"⟩, 7) := ⟨⟨by decide +kernel, by decide +kernel⟩, List.mem_of_getElem? (i := 17) (by decide +kernel), List.mem_of_getElem? (i := 799) (by decide +kernel), List.mem_of_getElem? (i := 800) (by decide +kernel)⟩
theorem lw_p29 : lw_okq (⟨"HandSpansModel", "refused", "(I)Z"⟩, 19) := ⟨⟨by decide +kernel, by decide +kernel⟩, List.mem_of_getElem? (i := 820) (by decide +kernel), List.mem_of_getElem? (i := 899) (by decide +kernel), List.mem_of_getElem? (i := 900) (by decide +kernel)⟩
theorem lw_p30 : lw_okq (⟨"HandSpansModel", "readAll", "()Z"⟩, 19) := ⟨⟨by decide +kernel, by decide +kernel⟩, List.mem_of_getElem? (i := 820) (by decide +kernel), List.mem_of_getElem? (i := 911) (by decide +kernel), List.mem_of_getElem? (i := 912) (by decide +kernel)⟩
theorem lw_p31 : lw_okq (⟨"HandSpansModel", "eat", "(I)Z"⟩, 19) := ⟨⟨by decide +kernel, by decide +kernel⟩, List.mem_of_getElem? (i := 820) (by decide +kernel), List.mem_of_getElem? (i := 915) (by decide +kernel), List.mem_of_getElem? (i := 916) (by decide +kernel)⟩
def lw_privs_2 : List (MethodName × Nat) := [(⟨"HandSpans$Reduction", "costs", "(I)I"⟩, 5), (⟨"HandSpans$Reduction", "cutStaves", "(I)I"⟩, 5), (⟨"HandSpans$Reduction", "move", "(II)I"⟩, 5), (⟨"java/lang/Throwable", "fillInStackTrace", "(I)Ljava/lang/Throwable;"⟩, 6), (⟨"HandSpans", "requireCell", "(II)V"⟩, 7), (⟨"HandSpans", "requireStaff", "(I)V"⟩, 7), (⟨"HandSpans", "requireBeat", "(I)V"⟩, 7), (⟨"HandSpans", "succeeds", "(I)Z"⟩, 7), (⟨"HandSpans", "triedSetting", "(II)Z"⟩, 7), (⟨"HandSpans", "triedCell", "(III)Z"⟩, 7), (⟨"HandSpans", "triedExchange", "(II)Z"⟩, 7), (⟨"HandSpans", "triedRemoval", "(I)Z"⟩, 7), (⟨"HandSpans", "simulateRound", "(I)V"⟩, 7), (⟨"HandSpansModel", "refused", "(I)Z"⟩, 19), (⟨"HandSpansModel", "readAll", "()Z"⟩, 19), (⟨"HandSpansModel", "eat", "(I)Z"⟩, 19)]
theorem lw_r2 : ∀ q ∈ lw_privs_2, lw_okq q := List.forall_mem_cons.mpr ⟨lw_p16, List.forall_mem_cons.mpr ⟨lw_p17, List.forall_mem_cons.mpr ⟨lw_p18, List.forall_mem_cons.mpr ⟨lw_p19, List.forall_mem_cons.mpr ⟨lw_p20, List.forall_mem_cons.mpr ⟨lw_p21, List.forall_mem_cons.mpr ⟨lw_p22, List.forall_mem_cons.mpr ⟨lw_p23, List.forall_mem_cons.mpr ⟨lw_p24, List.forall_mem_cons.mpr ⟨lw_p25, List.forall_mem_cons.mpr ⟨lw_p26, List.forall_mem_cons.mpr ⟨lw_p27, List.forall_mem_cons.mpr ⟨lw_p28, List.forall_mem_cons.mpr ⟨lw_p29, List.forall_mem_cons.mpr ⟨lw_p30, List.forall_mem_cons.mpr ⟨lw_p31, fun _ h => absurd h List.not_mem_nil⟩⟩⟩⟩⟩⟩⟩⟩⟩⟩⟩⟩⟩⟩⟩⟩
theorem lw_p32 : lw_okq (⟨"HandSpansModel", "digit", "(II)I"⟩, 19) := ⟨⟨by decide +kernel, by decide +kernel⟩, List.mem_of_getElem? (i := 820) (by decide +kernel), List.mem_of_getElem? (i := 919) (by decide +kernel), List.mem_of_getElem? (i := 920) (by decide +kernel)⟩
theorem lw_p33 : lw_okq (⟨"HandSpansModel", "two", "(II)I"⟩, 19) := ⟨⟨by decide +kernel, by decide +kernel⟩, List.mem_of_getElem? (i := 820) (by decide +kernel), List.mem_of_getElem? (i := 923) (by decide +kernel), List.mem_of_getElem? (i := 924) (by decide +kernel)⟩
theorem lw_p34 : lw_okq (⟨"HandSpansModel", "readCell", "(II)Z"⟩, 19) := ⟨⟨by decide +kernel, by decide +kernel⟩, List.mem_of_getElem? (i := 820) (by decide +kernel), List.mem_of_getElem? (i := 927) (by decide +kernel), List.mem_of_getElem? (i := 928) (by decide +kernel)⟩
theorem lw_p35 : lw_okq (⟨"HandSpansModel", "laySounds", "([I)V"⟩, 19) := ⟨⟨by decide +kernel, by decide +kernel⟩, List.mem_of_getElem? (i := 820) (by decide +kernel), List.mem_of_getElem? (i := 963) (by decide +kernel), List.mem_of_getElem? (i := 964) (by decide +kernel)⟩
theorem lw_p36 : lw_okq (⟨"HandSpansModel", "isHeld", "([III)Z"⟩, 19) := ⟨⟨by decide +kernel, by decide +kernel⟩, List.mem_of_getElem? (i := 820) (by decide +kernel), List.mem_of_getElem? (i := 967) (by decide +kernel), List.mem_of_getElem? (i := 968) (by decide +kernel)⟩
theorem lw_p37 : lw_okq (⟨"HandSpansModel", "remember", "()V"⟩, 19) := ⟨⟨by decide +kernel, by decide +kernel⟩, List.mem_of_getElem? (i := 820) (by decide +kernel), List.mem_of_getElem? (i := 979) (by decide +kernel), List.mem_of_getElem? (i := 980) (by decide +kernel)⟩
theorem lw_p38 : lw_okq (⟨"HandSpansModel", "lay", "([I)V"⟩, 19) := ⟨⟨by decide +kernel, by decide +kernel⟩, List.mem_of_getElem? (i := 820) (by decide +kernel), List.mem_of_getElem? (i := 1039) (by decide +kernel), List.mem_of_getElem? (i := 1040) (by decide +kernel)⟩
theorem lw_p39 : lw_okq (⟨"HandSpansModel", "layReasons", "([II)V"⟩, 19) := ⟨⟨by decide +kernel, by decide +kernel⟩, List.mem_of_getElem? (i := 820) (by decide +kernel), List.mem_of_getElem? (i := 1043) (by decide +kernel), List.mem_of_getElem? (i := 1044) (by decide +kernel)⟩
theorem lw_p40 : lw_okq (⟨"HandSpansModel", "stands", "([IIIZ)Z"⟩, 19) := ⟨⟨by decide +kernel, by decide +kernel⟩, List.mem_of_getElem? (i := 820) (by decide +kernel), List.mem_of_getElem? (i := 1047) (by decide +kernel), List.mem_of_getElem? (i := 1048) (by decide +kernel)⟩
theorem lw_p41 : lw_okq (⟨"HandSpansModel", "layRow", "([II)V"⟩, 19) := ⟨⟨by decide +kernel, by decide +kernel⟩, List.mem_of_getElem? (i := 820) (by decide +kernel), List.mem_of_getElem? (i := 1054) (by decide +kernel), List.mem_of_getElem? (i := 1055) (by decide +kernel)⟩
theorem lw_p42 : lw_okq (⟨"HandSpansModel", "layPossible", "([II)V"⟩, 19) := ⟨⟨by decide +kernel, by decide +kernel⟩, List.mem_of_getElem? (i := 820) (by decide +kernel), List.mem_of_getElem? (i := 1058) (by decide +kernel), List.mem_of_getElem? (i := 1059) (by decide +kernel)⟩
theorem lw_p43 : lw_okq (⟨"HandSpansModel", "canPlay", "([IIIII)Z"⟩, 19) := ⟨⟨by decide +kernel, by decide +kernel⟩, List.mem_of_getElem? (i := 820) (by decide +kernel), List.mem_of_getElem? (i := 1062) (by decide +kernel), List.mem_of_getElem? (i := 1063) (by decide +kernel)⟩
theorem lw_p44 : lw_okq (⟨"HandSpansModel", "width", "(III)I"⟩, 19) := ⟨⟨by decide +kernel, by decide +kernel⟩, List.mem_of_getElem? (i := 820) (by decide +kernel), List.mem_of_getElem? (i := 1066) (by decide +kernel), List.mem_of_getElem? (i := 1067) (by decide +kernel)⟩
theorem lw_p45 : lw_okq (⟨"HandSpansModel", "pitchOf", "(II)I"⟩, 19) := ⟨⟨by decide +kernel, by decide +kernel⟩, List.mem_of_getElem? (i := 820) (by decide +kernel), List.mem_of_getElem? (i := 1070) (by decide +kernel), List.mem_of_getElem? (i := 1071) (by decide +kernel)⟩
theorem lw_p46 : lw_okq (⟨"HandSpansModel", "dropInner", "([II)V"⟩, 19) := ⟨⟨by decide +kernel, by decide +kernel⟩, List.mem_of_getElem? (i := 820) (by decide +kernel), List.mem_of_getElem? (i := 1074) (by decide +kernel), List.mem_of_getElem? (i := 1075) (by decide +kernel)⟩
theorem lw_p47 : lw_okq (⟨"HandSpansModel", "layAhead", "([I)V"⟩, 19) := ⟨⟨by decide +kernel, by decide +kernel⟩, List.mem_of_getElem? (i := 820) (by decide +kernel), List.mem_of_getElem? (i := 1078) (by decide +kernel), List.mem_of_getElem? (i := 1079) (by decide +kernel)⟩
def lw_privs_3 : List (MethodName × Nat) := [(⟨"HandSpansModel", "digit", "(II)I"⟩, 19), (⟨"HandSpansModel", "two", "(II)I"⟩, 19), (⟨"HandSpansModel", "readCell", "(II)Z"⟩, 19), (⟨"HandSpansModel", "laySounds", "([I)V"⟩, 19), (⟨"HandSpansModel", "isHeld", "([III)Z"⟩, 19), (⟨"HandSpansModel", "remember", "()V"⟩, 19), (⟨"HandSpansModel", "lay", "([I)V"⟩, 19), (⟨"HandSpansModel", "layReasons", "([II)V"⟩, 19), (⟨"HandSpansModel", "stands", "([IIIZ)Z"⟩, 19), (⟨"HandSpansModel", "layRow", "([II)V"⟩, 19), (⟨"HandSpansModel", "layPossible", "([II)V"⟩, 19), (⟨"HandSpansModel", "canPlay", "([IIIII)Z"⟩, 19), (⟨"HandSpansModel", "width", "(III)I"⟩, 19), (⟨"HandSpansModel", "pitchOf", "(II)I"⟩, 19), (⟨"HandSpansModel", "dropInner", "([II)V"⟩, 19), (⟨"HandSpansModel", "layAhead", "([I)V"⟩, 19)]
theorem lw_r3 : ∀ q ∈ lw_privs_3, lw_okq q := List.forall_mem_cons.mpr ⟨lw_p32, List.forall_mem_cons.mpr ⟨lw_p33, List.forall_mem_cons.mpr ⟨lw_p34, List.forall_mem_cons.mpr ⟨lw_p35, List.forall_mem_cons.mpr ⟨lw_p36, List.forall_mem_cons.mpr ⟨lw_p37, List.forall_mem_cons.mpr ⟨lw_p38, List.forall_mem_cons.mpr ⟨lw_p39, List.forall_mem_cons.mpr ⟨lw_p40, List.forall_mem_cons.mpr ⟨lw_p41, List.forall_mem_cons.mpr ⟨lw_p42, List.forall_mem_cons.mpr ⟨lw_p43, List.forall_mem_cons.mpr ⟨lw_p44, List.forall_mem_cons.mpr ⟨lw_p45, List.forall_mem_cons.mpr ⟨lw_p46, List.forall_mem_cons.mpr ⟨lw_p47, fun _ h => absurd h List.not_mem_nil⟩⟩⟩⟩⟩⟩⟩⟩⟩⟩⟩⟩⟩⟩⟩⟩
theorem lw_p48 : lw_okq (⟨"HandSpansModel", "cheapest", "([IIIZ)I"⟩, 19) := ⟨⟨by decide +kernel, by decide +kernel⟩, List.mem_of_getElem? (i := 820) (by decide +kernel), List.mem_of_getElem? (i := 1082) (by decide +kernel), List.mem_of_getElem? (i := 1083) (by decide +kernel)⟩
theorem lw_p49 : lw_okq (⟨"HandSpansModel", "can", "(II)Z"⟩, 19) := ⟨⟨by decide +kernel, by decide +kernel⟩, List.mem_of_getElem? (i := 820) (by decide +kernel), List.mem_of_getElem? (i := 1086) (by decide +kernel), List.mem_of_getElem? (i := 1087) (by decide +kernel)⟩
theorem lw_p50 : lw_okq (⟨"HandSpansModel", "costOf", "([IIII)I"⟩, 19) := ⟨⟨by decide +kernel, by decide +kernel⟩, List.mem_of_getElem? (i := 820) (by decide +kernel), List.mem_of_getElem? (i := 1090) (by decide +kernel), List.mem_of_getElem? (i := 1091) (by decide +kernel)⟩
theorem lw_p51 : lw_okq (⟨"HandSpansModel", "move", "(IIII)I"⟩, 19) := ⟨⟨by decide +kernel, by decide +kernel⟩, List.mem_of_getElem? (i := 820) (by decide +kernel), List.mem_of_getElem? (i := 1094) (by decide +kernel), List.mem_of_getElem? (i := 1095) (by decide +kernel)⟩
theorem lw_p52 : lw_okq (⟨"HandSpansModel", "position", "(III)I"⟩, 19) := ⟨⟨by decide +kernel, by decide +kernel⟩, List.mem_of_getElem? (i := 820) (by decide +kernel), List.mem_of_getElem? (i := 1098) (by decide +kernel), List.mem_of_getElem? (i := 1099) (by decide +kernel)⟩
theorem lw_p53 : lw_okq (⟨"HandSpansModel", "to", "(III)I"⟩, 19) := ⟨⟨by decide +kernel, by decide +kernel⟩, List.mem_of_getElem? (i := 820) (by decide +kernel), List.mem_of_getElem? (i := 1102) (by decide +kernel), List.mem_of_getElem? (i := 1103) (by decide +kernel)⟩
theorem lw_p54 : lw_okq (⟨"HandSpansModel", "from", "(II)I"⟩, 19) := ⟨⟨by decide +kernel, by decide +kernel⟩, List.mem_of_getElem? (i := 820) (by decide +kernel), List.mem_of_getElem? (i := 1106) (by decide +kernel), List.mem_of_getElem? (i := 1107) (by decide +kernel)⟩
theorem lw_p55 : lw_okq (⟨"HandSpansModel", "isRolled", "([IIII)Z"⟩, 19) := ⟨⟨by decide +kernel, by decide +kernel⟩, List.mem_of_getElem? (i := 820) (by decide +kernel), List.mem_of_getElem? (i := 1110) (by decide +kernel), List.mem_of_getElem? (i := 1111) (by decide +kernel)⟩
theorem lw_p56 : lw_okq (⟨"HandSpansModel", "isCut", "([IIIII)Z"⟩, 19) := ⟨⟨by decide +kernel, by decide +kernel⟩, List.mem_of_getElem? (i := 820) (by decide +kernel), List.mem_of_getElem? (i := 1114) (by decide +kernel), List.mem_of_getElem? (i := 1115) (by decide +kernel)⟩
theorem lw_p57 : lw_okq (⟨"HandSpansModel", "placeOf", "(II)I"⟩, 19) := ⟨⟨by decide +kernel, by decide +kernel⟩, List.mem_of_getElem? (i := 820) (by decide +kernel), List.mem_of_getElem? (i := 1118) (by decide +kernel), List.mem_of_getElem? (i := 1119) (by decide +kernel)⟩
theorem lw_p58 : lw_okq (⟨"HandSpansModel", "handOf", "(III)I"⟩, 19) := ⟨⟨by decide +kernel, by decide +kernel⟩, List.mem_of_getElem? (i := 820) (by decide +kernel), List.mem_of_getElem? (i := 1122) (by decide +kernel), List.mem_of_getElem? (i := 1123) (by decide +kernel)⟩
theorem lw_p59 : lw_okq (⟨"HandSpansModel", "isCutHere", "([III)Z"⟩, 19) := ⟨⟨by decide +kernel, by decide +kernel⟩, List.mem_of_getElem? (i := 820) (by decide +kernel), List.mem_of_getElem? (i := 1126) (by decide +kernel), List.mem_of_getElem? (i := 1127) (by decide +kernel)⟩
theorem lw_p60 : lw_okq (⟨"HandSpansModel", "before", "(I)I"⟩, 19) := ⟨⟨by decide +kernel, by decide +kernel⟩, List.mem_of_getElem? (i := 820) (by decide +kernel), List.mem_of_getElem? (i := 1130) (by decide +kernel), List.mem_of_getElem? (i := 1131) (by decide +kernel)⟩
theorem lw_p61 : lw_okq (⟨"HandSpansModel", "wholeOf", "([II)I"⟩, 19) := ⟨⟨by decide +kernel, by decide +kernel⟩, List.mem_of_getElem? (i := 820) (by decide +kernel), List.mem_of_getElem? (i := 1148) (by decide +kernel), List.mem_of_getElem? (i := 1149) (by decide +kernel)⟩
theorem lw_p62 : lw_okq (⟨"HandSpansModel", "does", "(IIII)Z"⟩, 19) := ⟨⟨by decide +kernel, by decide +kernel⟩, List.mem_of_getElem? (i := 820) (by decide +kernel), List.mem_of_getElem? (i := 1175) (by decide +kernel), List.mem_of_getElem? (i := 1176) (by decide +kernel)⟩
theorem lw_p63 : lw_okq (⟨"HandSpansModel", "writes", "(III)Z"⟩, 19) := ⟨⟨by decide +kernel, by decide +kernel⟩, List.mem_of_getElem? (i := 820) (by decide +kernel), List.mem_of_getElem? (i := 1179) (by decide +kernel), List.mem_of_getElem? (i := 1180) (by decide +kernel)⟩
def lw_privs_4 : List (MethodName × Nat) := [(⟨"HandSpansModel", "cheapest", "([IIIZ)I"⟩, 19), (⟨"HandSpansModel", "can", "(II)Z"⟩, 19), (⟨"HandSpansModel", "costOf", "([IIII)I"⟩, 19), (⟨"HandSpansModel", "move", "(IIII)I"⟩, 19), (⟨"HandSpansModel", "position", "(III)I"⟩, 19), (⟨"HandSpansModel", "to", "(III)I"⟩, 19), (⟨"HandSpansModel", "from", "(II)I"⟩, 19), (⟨"HandSpansModel", "isRolled", "([IIII)Z"⟩, 19), (⟨"HandSpansModel", "isCut", "([IIIII)Z"⟩, 19), (⟨"HandSpansModel", "placeOf", "(II)I"⟩, 19), (⟨"HandSpansModel", "handOf", "(III)I"⟩, 19), (⟨"HandSpansModel", "isCutHere", "([III)Z"⟩, 19), (⟨"HandSpansModel", "before", "(I)I"⟩, 19), (⟨"HandSpansModel", "wholeOf", "([II)I"⟩, 19), (⟨"HandSpansModel", "does", "(IIII)Z"⟩, 19), (⟨"HandSpansModel", "writes", "(III)Z"⟩, 19)]
theorem lw_r4 : ∀ q ∈ lw_privs_4, lw_okq q := List.forall_mem_cons.mpr ⟨lw_p48, List.forall_mem_cons.mpr ⟨lw_p49, List.forall_mem_cons.mpr ⟨lw_p50, List.forall_mem_cons.mpr ⟨lw_p51, List.forall_mem_cons.mpr ⟨lw_p52, List.forall_mem_cons.mpr ⟨lw_p53, List.forall_mem_cons.mpr ⟨lw_p54, List.forall_mem_cons.mpr ⟨lw_p55, List.forall_mem_cons.mpr ⟨lw_p56, List.forall_mem_cons.mpr ⟨lw_p57, List.forall_mem_cons.mpr ⟨lw_p58, List.forall_mem_cons.mpr ⟨lw_p59, List.forall_mem_cons.mpr ⟨lw_p60, List.forall_mem_cons.mpr ⟨lw_p61, List.forall_mem_cons.mpr ⟨lw_p62, List.forall_mem_cons.mpr ⟨lw_p63, fun _ h => absurd h List.not_mem_nil⟩⟩⟩⟩⟩⟩⟩⟩⟩⟩⟩⟩⟩⟩⟩⟩
def lw_privs : List (MethodName × Nat) := lw_privs_1 ++ (lw_privs_2 ++ (lw_privs_3 ++ (lw_privs_4)))
def lw_tbl : List Cond := k2_sels lw_privs ++ tables_1
theorem lw_privs_ok : ∀ q ∈ lw_privs, lw_okq q := by
  show ∀ q ∈ lw_privs_1 ++ (lw_privs_2 ++ (lw_privs_3 ++ (lw_privs_4))), lw_okq q
  exact List.forall_mem_append.mpr ⟨lw_r1, List.forall_mem_append.mpr ⟨lw_r2, List.forall_mem_append.mpr ⟨lw_r3, lw_r4⟩⟩⟩
-- ===== end of PART A; then your names; then what follows =====
def RX0 : String := "HandSpans$Chord"
def TX0 : u_T := fun k => match k with
  | 0 => ("HandSpans$Chord", "spans", "[I", true)
  | 1 => ("HandSpans$Chord", "fingers", "I", false)
  | 2 => ("HandSpans$Chord", "reach", "I", false)
  | 3 => ("HandSpans$Chord", "octaveRule", "Z", false)
  | 4 => ("HandSpans$Chord", "pitches", "[I", true)
  | 5 => ("HandSpans$Chord", "reasons", "[I", true)
  | 6 => ("HandSpans$Chord", "held", "I", false)
  | 7 => ("HandSpans$Chord", "keptHolds", "I", false)
  | 8 => ("HandSpans$Chord", "rising", "[I", true)
  | 9 => ("HandSpans$Chord", "size", "I", false)
  | 10 => ("HandSpans$Chord", "possible", "I", false)
  | 11 => ("HandSpans$Chord", "leftStaves", "[I", true)
  | 12 => ("HandSpans$Chord", "positions", "[[I", true)
  | _ => ("HandSpans$Chord", "widths", "[[I", true)
def tyX0 : Nat → FieldType := fun k => match k with
  | 0 => .array .int
  | 1 => .int
  | 2 => .int
  | 3 => .boolean
  | 4 => .array .int
  | 5 => .array .int
  | 6 => .int
  | 7 => .int
  | 8 => .array .int
  | 9 => .int
  | 10 => .int
  | 11 => .array .int
  | 12 => .array (.array .int)
  | _ => .array (.array .int)
abbrev wsX00 : List Cond := u_ws RX0 TX0 14
theorem nmX0 : ∀ a, a < 14 → ∀ b, b < 14 → a ≠ b → (TX0 a).2.1 ≠ (TX0 b).2.1 := by decide +kernel
theorem tyX0_ok : ∀ k, k < 14 → parseFieldDescriptor (TX0 k).2.2.1 = some (tyX0 k) := by decide +kernel
abbrev cX0_init : ByteArray := prog_2_method_1_code
def yX0_init : MethodName := ⟨RX0, "<init>", "()V"⟩
abbrev cX0_read : ByteArray := prog_2_method_2_code
def yX0_read : MethodName := ⟨RX0, "read", "(LHandSpans$State;I)V"⟩
abbrev cX0_readSettings : ByteArray := prog_2_method_3_code
def yX0_readSettings : MethodName := ⟨RX0, "readSettings", "(LHandSpans$State;)V"⟩
abbrev cX0_readNotes : ByteArray := prog_2_method_4_code
def yX0_readNotes : MethodName := ⟨RX0, "readNotes", "(LHandSpans$State;I)V"⟩
abbrev cX0_reasonFor : ByteArray := prog_2_method_5_code
def yX0_reasonFor : MethodName := ⟨RX0, "reasonFor", "(II)I"⟩
abbrev cX0_share : ByteArray := prog_2_method_6_code
def yX0_share : MethodName := ⟨RX0, "share", "()V"⟩
abbrev cX0_insert : ByteArray := prog_2_method_7_code
def yX0_insert : MethodName := ⟨RX0, "insert", "(I)V"⟩
abbrev cX0_measure : ByteArray := prog_2_method_8_code
def yX0_measure : MethodName := ⟨RX0, "measure", "(IIII)V"⟩
abbrev cX0_canPlay : ByteArray := prog_2_method_9_code
def yX0_canPlay : MethodName := ⟨RX0, "canPlay", "(II)Z"⟩
abbrev cX0_isPossible : ByteArray := prog_2_method_10_code
def yX0_isPossible : MethodName := ⟨RX0, "isPossible", "(I)Z"⟩
abbrev cX0_stavesOf : ByteArray := prog_2_method_11_code
def yX0_stavesOf : MethodName := ⟨RX0, "stavesOf", "(II)I"⟩
abbrev cX0_countOf : ByteArray := prog_2_method_12_code
def yX0_countOf : MethodName := ⟨RX0, "countOf", "(II)I"⟩
abbrev cX0_isRolled : ByteArray := prog_2_method_13_code
def yX0_isRolled : MethodName := ⟨RX0, "isRolled", "(II)Z"⟩
abbrev cX0_countRolled : ByteArray := prog_2_method_14_code
def yX0_countRolled : MethodName := ⟨RX0, "countRolled", "(I)I"⟩
abbrev cX0_move : ByteArray := prog_2_method_15_code
def yX0_move : MethodName := ⟨RX0, "move", "(IILHandSpans$Chord;I)I"⟩
abbrev cX0_cutStaves : ByteArray := prog_2_method_16_code
def yX0_cutStaves : MethodName := ⟨RX0, "cutStaves", "(ILHandSpans$Chord;I)I"⟩
abbrev cX0_costs : ByteArray := prog_2_method_17_code
def yX0_costs : MethodName := ⟨RX0, "costs", "(ILHandSpans$Chord;I)I"⟩
abbrev cX0_countLeftOut : ByteArray := prog_2_method_18_code
def yX0_countLeftOut : MethodName := ⟨RX0, "countLeftOut", "(I)I"⟩
def RX1 : String := "HandSpans$History"
def TX1 : u_T := fun k => match k with
  | 0 => ("HandSpans$History", "ring", "[LHandSpans$State;", true)
  | 1 => ("HandSpans$History", "next", "I", false)
  | _ => ("HandSpans$History", "count", "I", false)
def tyX1 : Nat → FieldType := fun k => match k with
  | 0 => .array (.object "HandSpans$State")
  | 1 => .int
  | _ => .int
abbrev wsX10 : List Cond := u_ws RX1 TX1 3
theorem nmX1 : ∀ a, a < 3 → ∀ b, b < 3 → a ≠ b → (TX1 a).2.1 ≠ (TX1 b).2.1 := by decide +kernel
theorem tyX1_ok : ∀ k, k < 3 → parseFieldDescriptor (TX1 k).2.2.1 = some (tyX1 k) := by decide +kernel
abbrev cX1_init : ByteArray := prog_3_method_1_code
def yX1_init : MethodName := ⟨RX1, "<init>", "()V"⟩
abbrev cX1_isEmpty : ByteArray := prog_3_method_2_code
def yX1_isEmpty : MethodName := ⟨RX1, "isEmpty", "()Z"⟩
abbrev cX1_forget : ByteArray := prog_3_method_3_code
def yX1_forget : MethodName := ⟨RX1, "forget", "()V"⟩
abbrev cX1_remember : ByteArray := prog_3_method_4_code
def yX1_remember : MethodName := ⟨RX1, "remember", "(LHandSpans$State;)V"⟩
abbrev cX1_takeBack : ByteArray := prog_3_method_5_code
def yX1_takeBack : MethodName := ⟨RX1, "takeBack", "(LHandSpans$State;)I"⟩
def RX2 : String := "HandSpans$Reduction"
def TX2 : u_T := fun k => match k with
  | 0 => ("HandSpans$Reduction", "chords", "[LHandSpans$Chord;", true)
  | 1 => ("HandSpans$Reduction", "silence", "LHandSpans$Chord;", true)
  | 2 => ("HandSpans$Reduction", "splits", "[I", true)
  | 3 => ("HandSpans$Reduction", "ahead", "[[I", true)
  | _ => ("HandSpans$Reduction", "beats", "I", false)
def tyX2 : Nat → FieldType := fun k => match k with
  | 0 => .array (.object "HandSpans$Chord")
  | 1 => .object "HandSpans$Chord"
  | 2 => .array .int
  | 3 => .array (.array .int)
  | _ => .int
abbrev wsX20 : List Cond := u_ws RX2 TX2 5
theorem nmX2 : ∀ a, a < 5 → ∀ b, b < 5 → a ≠ b → (TX2 a).2.1 ≠ (TX2 b).2.1 := by decide +kernel
theorem tyX2_ok : ∀ k, k < 5 → parseFieldDescriptor (TX2 k).2.2.1 = some (tyX2 k) := by decide +kernel
abbrev cX2_init : ByteArray := prog_4_method_1_code
def yX2_init : MethodName := ⟨RX2, "<init>", "()V"⟩
abbrev cX2_make : ByteArray := prog_4_method_2_code
def yX2_make : MethodName := ⟨RX2, "make", "(LHandSpans$State;)V"⟩
abbrev cX2_lookAhead : ByteArray := prog_4_method_3_code
def yX2_lookAhead : MethodName := ⟨RX2, "lookAhead", "(Z)V"⟩
abbrev cX2_bestSplit : ByteArray := prog_4_method_4_code
def yX2_bestSplit : MethodName := ⟨RX2, "bestSplit", "(ILHandSpans$Chord;I)I"⟩
abbrev cX2_chordAt : ByteArray := prog_4_method_5_code
def yX2_chordAt : MethodName := ⟨RX2, "chordAt", "(I)LHandSpans$Chord;"⟩
abbrev cX2_splitAt : ByteArray := prog_4_method_6_code
def yX2_splitAt : MethodName := ⟨RX2, "splitAt", "(I)I"⟩
abbrev cX2_cutStaves : ByteArray := prog_4_method_7_code
def yX2_cutStaves : MethodName := ⟨RX2, "cutStaves", "(I)I"⟩
abbrev cX2_move : ByteArray := prog_4_method_8_code
def yX2_move : MethodName := ⟨RX2, "move", "(II)I"⟩
abbrev cX2_costs : ByteArray := prog_4_method_9_code
def yX2_costs : MethodName := ⟨RX2, "costs", "(I)I"⟩
abbrev cX2_numberOfNote : ByteArray := prog_4_method_10_code
def yX2_numberOfNote : MethodName := ⟨RX2, "numberOfNote", "(III)I"⟩
abbrev cX2_numberOfHand : ByteArray := prog_4_method_11_code
def yX2_numberOfHand : MethodName := ⟨RX2, "numberOfHand", "(III)I"⟩
abbrev cX2_numberOfBeat : ByteArray := prog_4_method_12_code
def yX2_numberOfBeat : MethodName := ⟨RX2, "numberOfBeat", "(II)I"⟩
abbrev cX2_numberOfWhole : ByteArray := prog_4_method_13_code
def yX2_numberOfWhole : MethodName := ⟨RX2, "numberOfWhole", "(I)I"⟩
abbrev cX2_shareOfBeat : ByteArray := prog_4_method_14_code
def yX2_shareOfBeat : MethodName := ⟨RX2, "shareOfBeat", "(II)I"⟩
def RX3 : String := "HandSpans$State"
def TX3 : u_T := fun k => match k with
  | 0 => ("HandSpans$State", "settings", "[I", true)
  | 1 => ("HandSpans$State", "cells", "[I", true)
  | 2 => ("HandSpans$State", "staves", "I", false)
  | _ => ("HandSpans$State", "beats", "I", false)
def tyX3 : Nat → FieldType := fun k => match k with
  | 0 => .array .int
  | 1 => .array .int
  | 2 => .int
  | _ => .int
abbrev wsX30 : List Cond := u_ws RX3 TX3 4
theorem nmX3 : ∀ a, a < 4 → ∀ b, b < 4 → a ≠ b → (TX3 a).2.1 ≠ (TX3 b).2.1 := by decide +kernel
theorem tyX3_ok : ∀ k, k < 4 → parseFieldDescriptor (TX3 k).2.2.1 = some (tyX3 k) := by decide +kernel
abbrev cX3_init : ByteArray := prog_5_method_1_code
def yX3_init : MethodName := ⟨RX3, "<init>", "()V"⟩
abbrev cX3_becomeRests : ByteArray := prog_5_method_2_code
def yX3_becomeRests : MethodName := ⟨RX3, "becomeRests", "(II)V"⟩
abbrev cX3_resetSettings : ByteArray := prog_5_method_3_code
def yX3_resetSettings : MethodName := ⟨RX3, "resetSettings", "()V"⟩
abbrev cX3_takeFrom : ByteArray := prog_5_method_4_code
def yX3_takeFrom : MethodName := ⟨RX3, "takeFrom", "(LHandSpans$State;)V"⟩
abbrev cX3_isPitch : ByteArray := prog_5_method_5_code
def yX3_isPitch : MethodName := ⟨RX3, "isPitch", "(I)Z"⟩
abbrev cX3_isSetting : ByteArray := prog_5_method_6_code
def yX3_isSetting : MethodName := ⟨RX3, "isSetting", "(I)Z"⟩
abbrev cX3_allowsSetting : ByteArray := prog_5_method_7_code
def yX3_allowsSetting : MethodName := ⟨RX3, "allowsSetting", "(II)Z"⟩
abbrev cX3_hasStaff : ByteArray := prog_5_method_8_code
def yX3_hasStaff : MethodName := ⟨RX3, "hasStaff", "(I)Z"⟩
abbrev cX3_hasBeat : ByteArray := prog_5_method_9_code
def yX3_hasBeat : MethodName := ⟨RX3, "hasBeat", "(I)Z"⟩
abbrev cX3_hasCell : ByteArray := prog_5_method_10_code
def yX3_hasCell : MethodName := ⟨RX3, "hasCell", "(II)Z"⟩
abbrev cX3_allowsHold : ByteArray := prog_5_method_11_code
def yX3_allowsHold : MethodName := ⟨RX3, "allowsHold", "(II)Z"⟩
abbrev cX3_allowsMoving : ByteArray := prog_5_method_12_code
def yX3_allowsMoving : MethodName := ⟨RX3, "allowsMoving", "(II)Z"⟩
abbrev cX3_settingAt : ByteArray := prog_5_method_13_code
def yX3_settingAt : MethodName := ⟨RX3, "settingAt", "(I)I"⟩
abbrev cX3_written : ByteArray := prog_5_method_14_code
def yX3_written : MethodName := ⟨RX3, "written", "(II)I"⟩
abbrev cX3_sounding : ByteArray := prog_5_method_15_code
def yX3_sounding : MethodName := ⟨RX3, "sounding", "(II)I"⟩
abbrev cX3_countStruck : ByteArray := prog_5_method_16_code
def yX3_countStruck : MethodName := ⟨RX3, "countStruck", "()I"⟩
abbrev cX3_countStruckOf : ByteArray := prog_5_method_17_code
def yX3_countStruckOf : MethodName := ⟨RX3, "countStruckOf", "(I)I"⟩
abbrev cX3_countHolds : ByteArray := prog_5_method_18_code
def yX3_countHolds : MethodName := ⟨RX3, "countHolds", "()I"⟩
abbrev cX3_changeSetting : ByteArray := prog_5_method_19_code
def yX3_changeSetting : MethodName := ⟨RX3, "changeSetting", "(II)V"⟩
abbrev cX3_put : ByteArray := prog_5_method_20_code
def yX3_put : MethodName := ⟨RX3, "put", "(III)V"⟩
abbrev cX3_silenceStaff : ByteArray := prog_5_method_21_code
def yX3_silenceStaff : MethodName := ⟨RX3, "silenceStaff", "(I)V"⟩
abbrev cX3_moveStaff : ByteArray := prog_5_method_22_code
def yX3_moveStaff : MethodName := ⟨RX3, "moveStaff", "(II)I"⟩
abbrev cX3_swapStaves : ByteArray := prog_5_method_23_code
def yX3_swapStaves : MethodName := ⟨RX3, "swapStaves", "(II)I"⟩
abbrev cX3_addStaff : ByteArray := prog_5_method_24_code
def yX3_addStaff : MethodName := ⟨RX3, "addStaff", "()V"⟩
abbrev cX3_dropStaff : ByteArray := prog_5_method_25_code
def yX3_dropStaff : MethodName := ⟨RX3, "dropStaff", "()V"⟩
abbrev cX3_openBeat : ByteArray := prog_5_method_26_code
def yX3_openBeat : MethodName := ⟨RX3, "openBeat", "(I)V"⟩
abbrev cX3_closeBeat : ByteArray := prog_5_method_27_code
def yX3_closeBeat : MethodName := ⟨RX3, "closeBeat", "(I)V"⟩
abbrev cX3_dropLooseHolds : ByteArray := prog_5_method_28_code
def yX3_dropLooseHolds : MethodName := ⟨RX3, "dropLooseHolds", "()V"⟩
def RX4 : String := "HandSpans$Text"
def TX4 : u_T := fun k => match k with
  | 0 => ("HandSpans$Text", "signs", "[C", true)
  | 1 => ("HandSpans$Text", "length", "I", false)
  | _ => ("HandSpans$Text", "at", "I", false)
def tyX4 : Nat → FieldType := fun k => match k with
  | 0 => .array .char
  | 1 => .int
  | _ => .int
abbrev wsX40 : List Cond := u_ws RX4 TX4 3
theorem nmX4 : ∀ a, a < 3 → ∀ b, b < 3 → a ≠ b → (TX4 a).2.1 ≠ (TX4 b).2.1 := by decide +kernel
theorem tyX4_ok : ∀ k, k < 3 → parseFieldDescriptor (TX4 k).2.2.1 = some (tyX4 k) := by decide +kernel
abbrev cX4_init : ByteArray := prog_6_method_1_code
def yX4_init : MethodName := ⟨RX4, "<init>", "()V"⟩
abbrev cX4_isFull : ByteArray := prog_6_method_2_code
def yX4_isFull : MethodName := ⟨RX4, "isFull", "()Z"⟩
abbrev cX4_add : ByteArray := prog_6_method_3_code
def yX4_add : MethodName := ⟨RX4, "add", "(C)I"⟩
abbrev cX4_empty : ByteArray := prog_6_method_4_code
def yX4_empty : MethodName := ⟨RX4, "empty", "()I"⟩
abbrev cX4_readInto : ByteArray := prog_6_method_5_code
def yX4_readInto : MethodName := ⟨RX4, "readInto", "(LHandSpans$State;)I"⟩
abbrev cX4_readCell : ByteArray := prog_6_method_6_code
def yX4_readCell : MethodName := ⟨RX4, "readCell", "(LHandSpans$State;II)Z"⟩
abbrev cX4_signAt : ByteArray := prog_6_method_7_code
def yX4_signAt : MethodName := ⟨RX4, "signAt", "(I)I"⟩
abbrev cX4_digitAt : ByteArray := prog_6_method_8_code
def yX4_digitAt : MethodName := ⟨RX4, "digitAt", "(I)I"⟩
def RX5 : String := "HandSpans"
def TX5 : u_T := fun k => match k with
  | 0 => ("HandSpans", "text", "LHandSpans$Text;", true)
  | 1 => ("HandSpans", "now", "LHandSpans$State;", true)
  | 2 => ("HandSpans", "trial", "LHandSpans$State;", true)
  | 3 => ("HandSpans", "reduction", "LHandSpans$Reduction;", true)
  | 4 => ("HandSpans", "history", "LHandSpans$History;", true)
  | 5 => ("HandSpans", "slots", "[LHandSpans$State;", true)
  | _ => ("HandSpans", "filled", "[Z", true)
def tyX5 : Nat → FieldType := fun k => match k with
  | 0 => .object "HandSpans$Text"
  | 1 => .object "HandSpans$State"
  | 2 => .object "HandSpans$State"
  | 3 => .object "HandSpans$Reduction"
  | 4 => .object "HandSpans$History"
  | 5 => .array (.object "HandSpans$State")
  | _ => .array .boolean
abbrev wsX50 : List Cond := u_ws RX5 TX5 7
theorem nmX5 : ∀ a, a < 7 → ∀ b, b < 7 → a ≠ b → (TX5 a).2.1 ≠ (TX5 b).2.1 := by decide +kernel
theorem tyX5_ok : ∀ k, k < 7 → parseFieldDescriptor (TX5 k).2.2.1 = some (tyX5 k) := by decide +kernel
abbrev cX5_init : ByteArray := prog_1_method_1_code
def yX5_init : MethodName := ⟨RX5, "<init>", "()V"⟩
abbrev cX5_append : ByteArray := prog_1_method_2_code
def yX5_append : MethodName := ⟨RX5, "append", "(I)I"⟩
abbrev cX5_clearText : ByteArray := prog_1_method_3_code
def yX5_clearText : MethodName := ⟨RX5, "clearText", "()I"⟩
abbrev cX5_errorPosition : ByteArray := prog_1_method_4_code
def yX5_errorPosition : MethodName := ⟨RX5, "errorPosition", "()I"⟩
abbrev cX5_load : ByteArray := prog_1_method_5_code
def yX5_load : MethodName := ⟨RX5, "load", "()I"⟩
abbrev cX5_about : ByteArray := prog_1_method_6_code
def yX5_about : MethodName := ⟨RX5, "about", "(I)I"⟩
abbrev cX5_cell : ByteArray := prog_1_method_7_code
def yX5_cell : MethodName := ⟨RX5, "cell", "(IIZ)I"⟩
abbrev cX5_set : ByteArray := prog_1_method_8_code
def yX5_set : MethodName := ⟨RX5, "set", "(II)I"⟩
abbrev cX5_write : ByteArray := prog_1_method_9_code
def yX5_write : MethodName := ⟨RX5, "write", "(III)I"⟩
abbrev cX5_transpose : ByteArray := prog_1_method_10_code
def yX5_transpose : MethodName := ⟨RX5, "transpose", "(II)I"⟩
abbrev cX5_exchange : ByteArray := prog_1_method_11_code
def yX5_exchange : MethodName := ⟨RX5, "exchange", "(II)I"⟩
abbrev cX5_staff : ByteArray := prog_1_method_12_code
def yX5_staff : MethodName := ⟨RX5, "staff", "(Z)I"⟩
abbrev cX5_insertBeat : ByteArray := prog_1_method_13_code
def yX5_insertBeat : MethodName := ⟨RX5, "insertBeat", "(I)I"⟩
abbrev cX5_removeBeat : ByteArray := prog_1_method_14_code
def yX5_removeBeat : MethodName := ⟨RX5, "removeBeat", "(I)I"⟩
abbrev cX5_undo : ByteArray := prog_1_method_15_code
def yX5_undo : MethodName := ⟨RX5, "undo", "()I"⟩
abbrev cX5_note : ByteArray := prog_1_method_16_code
def yX5_note : MethodName := ⟨RX5, "note", "(III)I"⟩
abbrev cX5_hand : ByteArray := prog_1_method_17_code
def yX5_hand : MethodName := ⟨RX5, "hand", "(III)I"⟩
abbrev cX5_beat : ByteArray := prog_1_method_18_code
def yX5_beat : MethodName := ⟨RX5, "beat", "(II)I"⟩
abbrev cX5_whole : ByteArray := prog_1_method_19_code
def yX5_whole : MethodName := ⟨RX5, "whole", "(I)I"⟩
abbrev cX5_whatIf : ByteArray := prog_1_method_20_code
def yX5_whatIf : MethodName := ⟨RX5, "whatIf", "(III)I"⟩
abbrev cX5_smallestSpan : ByteArray := prog_1_method_21_code
def yX5_smallestSpan : MethodName := ⟨RX5, "smallestSpan", "()I"⟩
abbrev cX5_dearest : ByteArray := prog_1_method_22_code
def yX5_dearest : MethodName := ⟨RX5, "dearest", "()I"⟩
abbrev cX5_bestTransposition : ByteArray := prog_1_method_23_code
def yX5_bestTransposition : MethodName := ⟨RX5, "bestTransposition", "(I)I"⟩
abbrev cX5_runScript : ByteArray := prog_1_method_24_code
def yX5_runScript : MethodName := ⟨RX5, "runScript", "(IJ)I"⟩
abbrev cX5_simulate : ByteArray := prog_1_method_25_code
def yX5_simulate : MethodName := ⟨RX5, "simulate", "(JI)I"⟩
abbrev cX5_save : ByteArray := prog_1_method_26_code
def yX5_save : MethodName := ⟨RX5, "save", "(I)I"⟩
abbrev cX5_restore : ByteArray := prog_1_method_27_code
def yX5_restore : MethodName := ⟨RX5, "restore", "(I)I"⟩
abbrev cX5_requireStaff : ByteArray := prog_1_method_28_code
def yX5_requireStaff : MethodName := ⟨RX5, "requireStaff", "(I)V"⟩
abbrev cX5_requireBeat : ByteArray := prog_1_method_29_code
def yX5_requireBeat : MethodName := ⟨RX5, "requireBeat", "(I)V"⟩
abbrev cX5_requireCell : ByteArray := prog_1_method_30_code
def yX5_requireCell : MethodName := ⟨RX5, "requireCell", "(II)V"⟩
abbrev cX5_requireSlot : ByteArray := prog_1_method_31_code
def yX5_requireSlot : MethodName := ⟨RX5, "requireSlot", "(I)V"⟩
abbrev cX5_requireUpTo : ByteArray := prog_1_method_32_code
def yX5_requireUpTo : MethodName := ⟨RX5, "requireUpTo", "(II)V"⟩
abbrev cX5_numberOfTrial : ByteArray := prog_1_method_33_code
def yX5_numberOfTrial : MethodName := ⟨RX5, "numberOfTrial", "(I)I"⟩
abbrev cX5_groupFromEnd : ByteArray := prog_1_method_34_code
def yX5_groupFromEnd : MethodName := ⟨RX5, "groupFromEnd", "(JI)J"⟩
abbrev cX5_succeeds : ByteArray := prog_1_method_35_code
def yX5_succeeds : MethodName := ⟨RX5, "succeeds", "(I)Z"⟩
abbrev cX5_triedSetting : ByteArray := prog_1_method_36_code
def yX5_triedSetting : MethodName := ⟨RX5, "triedSetting", "(II)Z"⟩
abbrev cX5_triedCell : ByteArray := prog_1_method_37_code
def yX5_triedCell : MethodName := ⟨RX5, "triedCell", "(III)Z"⟩
abbrev cX5_triedExchange : ByteArray := prog_1_method_38_code
def yX5_triedExchange : MethodName := ⟨RX5, "triedExchange", "(II)Z"⟩
abbrev cX5_triedRemoval : ByteArray := prog_1_method_39_code
def yX5_triedRemoval : MethodName := ⟨RX5, "triedRemoval", "(I)Z"⟩
abbrev cX5_simulateRound : ByteArray := prog_1_method_40_code
def yX5_simulateRound : MethodName := ⟨RX5, "simulateRound", "(I)V"⟩
def RX6 : String := "HandSpansModel"
def TX6 : u_T := fun k => match k with
  | 0 => ("HandSpansModel", "refusal", "I", false)
  | 1 => ("HandSpansModel", "text", "[I", true)
  | 2 => ("HandSpansModel", "textSize", "I", false)
  | 3 => ("HandSpansModel", "spot", "I", false)
  | 4 => ("HandSpansModel", "read", "[I", true)
  | 5 => ("HandSpansModel", "now", "[I", true)
  | 6 => ("HandSpansModel", "trial", "[I", true)
  | 7 => ("HandSpansModel", "other", "[I", true)
  | 8 => ("HandSpansModel", "diary", "[I", true)
  | 9 => ("HandSpansModel", "acts", "I", false)
  | 10 => ("HandSpansModel", "kept", "[I", true)
  | 11 => ("HandSpansModel", "isKept", "[Z", true)
  | 12 => ("HandSpansModel", "sound", "[I", true)
  | 13 => ("HandSpansModel", "reason", "[I", true)
  | 14 => ("HandSpansModel", "row", "[I", true)
  | 15 => ("HandSpansModel", "rowMany", "[I", true)
  | 16 => ("HandSpansModel", "possible", "[I", true)
  | 17 => ("HandSpansModel", "split", "[I", true)
  | _ => ("HandSpansModel", "ahead", "[I", true)
def tyX6 : Nat → FieldType := fun k => match k with
  | 0 => .int
  | 1 => .array .int
  | 2 => .int
  | 3 => .int
  | 4 => .array .int
  | 5 => .array .int
  | 6 => .array .int
  | 7 => .array .int
  | 8 => .array .int
  | 9 => .int
  | 10 => .array .int
  | 11 => .array .boolean
  | 12 => .array .int
  | 13 => .array .int
  | 14 => .array .int
  | 15 => .array .int
  | 16 => .array .int
  | 17 => .array .int
  | _ => .array .int
abbrev wsX60 : List Cond := u_ws RX6 TX6 19
theorem nmX6 : ∀ a, a < 19 → ∀ b, b < 19 → a ≠ b → (TX6 a).2.1 ≠ (TX6 b).2.1 := by decide +kernel
theorem tyX6_ok : ∀ k, k < 19 → parseFieldDescriptor (TX6 k).2.2.1 = some (tyX6 k) := by decide +kernel
abbrev cX6_init : ByteArray := prog_8_method_1_code
def yX6_init : MethodName := ⟨RX6, "<init>", "()V"⟩
abbrev cX6_thrown : ByteArray := prog_8_method_2_code
def yX6_thrown : MethodName := ⟨RX6, "thrown", "()I"⟩
abbrev cX6_refused : ByteArray := prog_8_method_3_code
def yX6_refused : MethodName := ⟨RX6, "refused", "(I)Z"⟩
abbrev cX6_in : ByteArray := prog_8_method_4_code
def yX6_in : MethodName := ⟨RX6, "in", "(JJJ)Z"⟩
abbrev cX6_copyPage : ByteArray := prog_8_method_5_code
def yX6_copyPage : MethodName := ⟨RX6, "copyPage", "([II[II)V"⟩
abbrev cX6_begin : ByteArray := prog_8_method_6_code
def yX6_begin : MethodName := ⟨RX6, "begin", "([I)V"⟩
abbrev cX6_at : ByteArray := prog_8_method_7_code
def yX6_at : MethodName := ⟨RX6, "at", "(II)I"⟩
abbrev cX6_isSetting : ByteArray := prog_8_method_8_code
def yX6_isSetting : MethodName := ⟨RX6, "isSetting", "(II)Z"⟩
abbrev cX6_isHeld : ByteArray := prog_8_method_9_code
def yX6_isHeld : MethodName := ⟨RX6, "isHeld", "([III)Z"⟩
abbrev cX6_laySounds : ByteArray := prog_8_method_10_code
def yX6_laySounds : MethodName := ⟨RX6, "laySounds", "([I)V"⟩
abbrev cX6_rank : ByteArray := prog_8_method_11_code
def yX6_rank : MethodName := ⟨RX6, "rank", "([II)I"⟩
abbrev cX6_stands : ByteArray := prog_8_method_12_code
def yX6_stands : MethodName := ⟨RX6, "stands", "([IIIZ)Z"⟩
abbrev cX6_layReasons : ByteArray := prog_8_method_13_code
def yX6_layReasons : MethodName := ⟨RX6, "layReasons", "([II)V"⟩
abbrev cX6_layRow : ByteArray := prog_8_method_14_code
def yX6_layRow : MethodName := ⟨RX6, "layRow", "([II)V"⟩
abbrev cX6_pitchOf : ByteArray := prog_8_method_15_code
def yX6_pitchOf : MethodName := ⟨RX6, "pitchOf", "(II)I"⟩
abbrev cX6_width : ByteArray := prog_8_method_16_code
def yX6_width : MethodName := ⟨RX6, "width", "(III)I"⟩
abbrev cX6_canPlay : ByteArray := prog_8_method_17_code
def yX6_canPlay : MethodName := ⟨RX6, "canPlay", "([IIIII)Z"⟩
abbrev cX6_layPossible : ByteArray := prog_8_method_18_code
def yX6_layPossible : MethodName := ⟨RX6, "layPossible", "([II)V"⟩
abbrev cX6_dropInner : ByteArray := prog_8_method_19_code
def yX6_dropInner : MethodName := ⟨RX6, "dropInner", "([II)V"⟩
abbrev cX6_can : ByteArray := prog_8_method_20_code
def yX6_can : MethodName := ⟨RX6, "can", "(II)Z"⟩
abbrev cX6_placeOf : ByteArray := prog_8_method_21_code
def yX6_placeOf : MethodName := ⟨RX6, "placeOf", "(II)I"⟩
abbrev cX6_handOf : ByteArray := prog_8_method_22_code
def yX6_handOf : MethodName := ⟨RX6, "handOf", "(III)I"⟩
abbrev cX6_isCut : ByteArray := prog_8_method_23_code
def yX6_isCut : MethodName := ⟨RX6, "isCut", "([IIIII)Z"⟩
abbrev cX6_from : ByteArray := prog_8_method_24_code
def yX6_from : MethodName := ⟨RX6, "from", "(II)I"⟩
abbrev cX6_to : ByteArray := prog_8_method_25_code
def yX6_to : MethodName := ⟨RX6, "to", "(III)I"⟩
abbrev cX6_position : ByteArray := prog_8_method_26_code
def yX6_position : MethodName := ⟨RX6, "position", "(III)I"⟩
abbrev cX6_move : ByteArray := prog_8_method_27_code
def yX6_move : MethodName := ⟨RX6, "move", "(IIII)I"⟩
abbrev cX6_isRolled : ByteArray := prog_8_method_28_code
def yX6_isRolled : MethodName := ⟨RX6, "isRolled", "([IIII)Z"⟩
abbrev cX6_costOf : ByteArray := prog_8_method_29_code
def yX6_costOf : MethodName := ⟨RX6, "costOf", "([IIII)I"⟩
abbrev cX6_cheapest : ByteArray := prog_8_method_30_code
def yX6_cheapest : MethodName := ⟨RX6, "cheapest", "([IIIZ)I"⟩
abbrev cX6_layAhead : ByteArray := prog_8_method_31_code
def yX6_layAhead : MethodName := ⟨RX6, "layAhead", "([I)V"⟩
abbrev cX6_lay : ByteArray := prog_8_method_32_code
def yX6_lay : MethodName := ⟨RX6, "lay", "([I)V"⟩
abbrev cX6_before : ByteArray := prog_8_method_33_code
def yX6_before : MethodName := ⟨RX6, "before", "(I)I"⟩
abbrev cX6_isCutHere : ByteArray := prog_8_method_34_code
def yX6_isCutHere : MethodName := ⟨RX6, "isCutHere", "([III)Z"⟩
abbrev cX6_wholeOf : ByteArray := prog_8_method_35_code
def yX6_wholeOf : MethodName := ⟨RX6, "wholeOf", "([II)I"⟩
abbrev cX6_mend : ByteArray := prog_8_method_36_code
def yX6_mend : MethodName := ⟨RX6, "mend", "([I)V"⟩
abbrev cX6_append : ByteArray := prog_8_method_37_code
def yX6_append : MethodName := ⟨RX6, "append", "(I)I"⟩
abbrev cX6_clearText : ByteArray := prog_8_method_38_code
def yX6_clearText : MethodName := ⟨RX6, "clearText", "()I"⟩
abbrev cX6_eat : ByteArray := prog_8_method_39_code
def yX6_eat : MethodName := ⟨RX6, "eat", "(I)Z"⟩
abbrev cX6_digit : ByteArray := prog_8_method_40_code
def yX6_digit : MethodName := ⟨RX6, "digit", "(II)I"⟩
abbrev cX6_two : ByteArray := prog_8_method_41_code
def yX6_two : MethodName := ⟨RX6, "two", "(II)I"⟩
abbrev cX6_readCell : ByteArray := prog_8_method_42_code
def yX6_readCell : MethodName := ⟨RX6, "readCell", "(II)Z"⟩
abbrev cX6_readAll : ByteArray := prog_8_method_43_code
def yX6_readAll : MethodName := ⟨RX6, "readAll", "()Z"⟩
abbrev cX6_errorPosition : ByteArray := prog_8_method_44_code
def yX6_errorPosition : MethodName := ⟨RX6, "errorPosition", "()I"⟩
abbrev cX6_load : ByteArray := prog_8_method_45_code
def yX6_load : MethodName := ⟨RX6, "load", "()I"⟩
abbrev cX6_cellsLike : ByteArray := prog_8_method_46_code
def yX6_cellsLike : MethodName := ⟨RX6, "cellsLike", "([IZ)I"⟩
abbrev cX6_about : ByteArray := prog_8_method_47_code
def yX6_about : MethodName := ⟨RX6, "about", "(I)I"⟩
abbrev cX6_isStaff : ByteArray := prog_8_method_48_code
def yX6_isStaff : MethodName := ⟨RX6, "isStaff", "([II)Z"⟩
abbrev cX6_isBeat : ByteArray := prog_8_method_49_code
def yX6_isBeat : MethodName := ⟨RX6, "isBeat", "([II)Z"⟩
abbrev cX6_isCell : ByteArray := prog_8_method_50_code
def yX6_isCell : MethodName := ⟨RX6, "isCell", "([III)Z"⟩
abbrev cX6_cell : ByteArray := prog_8_method_51_code
def yX6_cell : MethodName := ⟨RX6, "cell", "(IIZ)I"⟩
abbrev cX6_remember : ByteArray := prog_8_method_52_code
def yX6_remember : MethodName := ⟨RX6, "remember", "()V"⟩
abbrev cX6_set : ByteArray := prog_8_method_53_code
def yX6_set : MethodName := ⟨RX6, "set", "(II)I"⟩
abbrev cX6_canWrite : ByteArray := prog_8_method_54_code
def yX6_canWrite : MethodName := ⟨RX6, "canWrite", "([IIII)Z"⟩
abbrev cX6_put : ByteArray := prog_8_method_55_code
def yX6_put : MethodName := ⟨RX6, "put", "([IIII)V"⟩
abbrev cX6_write : ByteArray := prog_8_method_56_code
def yX6_write : MethodName := ⟨RX6, "write", "(III)I"⟩
abbrev cX6_canShift : ByteArray := prog_8_method_57_code
def yX6_canShift : MethodName := ⟨RX6, "canShift", "([III)Z"⟩
abbrev cX6_shift : ByteArray := prog_8_method_58_code
def yX6_shift : MethodName := ⟨RX6, "shift", "([III)I"⟩
abbrev cX6_transpose : ByteArray := prog_8_method_59_code
def yX6_transpose : MethodName := ⟨RX6, "transpose", "(II)I"⟩
abbrev cX6_swap : ByteArray := prog_8_method_60_code
def yX6_swap : MethodName := ⟨RX6, "swap", "([III)I"⟩
abbrev cX6_exchange : ByteArray := prog_8_method_61_code
def yX6_exchange : MethodName := ⟨RX6, "exchange", "(II)I"⟩
abbrev cX6_staff : ByteArray := prog_8_method_62_code
def yX6_staff : MethodName := ⟨RX6, "staff", "(Z)I"⟩
abbrev cX6_insertBeat : ByteArray := prog_8_method_63_code
def yX6_insertBeat : MethodName := ⟨RX6, "insertBeat", "(I)I"⟩
abbrev cX6_dropBeat : ByteArray := prog_8_method_64_code
def yX6_dropBeat : MethodName := ⟨RX6, "dropBeat", "([II)V"⟩
abbrev cX6_removeBeat : ByteArray := prog_8_method_65_code
def yX6_removeBeat : MethodName := ⟨RX6, "removeBeat", "(I)I"⟩
abbrev cX6_undo : ByteArray := prog_8_method_66_code
def yX6_undo : MethodName := ⟨RX6, "undo", "()I"⟩
abbrev cX6_note : ByteArray := prog_8_method_67_code
def yX6_note : MethodName := ⟨RX6, "note", "(III)I"⟩
abbrev cX6_hand : ByteArray := prog_8_method_68_code
def yX6_hand : MethodName := ⟨RX6, "hand", "(III)I"⟩
abbrev cX6_beat : ByteArray := prog_8_method_69_code
def yX6_beat : MethodName := ⟨RX6, "beat", "(II)I"⟩
abbrev cX6_whole : ByteArray := prog_8_method_70_code
def yX6_whole : MethodName := ⟨RX6, "whole", "(I)I"⟩
abbrev cX6_whatIf : ByteArray := prog_8_method_71_code
def yX6_whatIf : MethodName := ⟨RX6, "whatIf", "(III)I"⟩
abbrev cX6_smallestSpan : ByteArray := prog_8_method_72_code
def yX6_smallestSpan : MethodName := ⟨RX6, "smallestSpan", "()I"⟩
abbrev cX6_dearest : ByteArray := prog_8_method_73_code
def yX6_dearest : MethodName := ⟨RX6, "dearest", "()I"⟩
abbrev cX6_bestTransposition : ByteArray := prog_8_method_74_code
def yX6_bestTransposition : MethodName := ⟨RX6, "bestTransposition", "(I)I"⟩
abbrev cX6_writes : ByteArray := prog_8_method_75_code
def yX6_writes : MethodName := ⟨RX6, "writes", "(III)Z"⟩
abbrev cX6_does : ByteArray := prog_8_method_76_code
def yX6_does : MethodName := ⟨RX6, "does", "(IIII)Z"⟩
abbrev cX6_runScript : ByteArray := prog_8_method_77_code
def yX6_runScript : MethodName := ⟨RX6, "runScript", "(IJ)I"⟩
abbrev cX6_simulate : ByteArray := prog_8_method_78_code
def yX6_simulate : MethodName := ⟨RX6, "simulate", "(JI)I"⟩
abbrev cX6_save : ByteArray := prog_8_method_79_code
def yX6_save : MethodName := ⟨RX6, "save", "(I)I"⟩
abbrev cX6_restore : ByteArray := prog_8_method_80_code
def yX6_restore : MethodName := ⟨RX6, "restore", "(I)I"⟩
def RJ6 : String := "java/lang/Integer"
def TJ6 : u_T := fun k => match k with
  | _ => ("", "", "", false)
def tyJ6 : Nat → FieldType := fun k => match k with
  | _ => .int
abbrev wsJ60 : List Cond := u_ws RJ6 TJ6 0
theorem nmJ6 : ∀ a, a < 0 → ∀ b, b < 0 → a ≠ b → (TJ6 a).2.1 ≠ (TJ6 b).2.1 := by decide +kernel
theorem tyJ6_ok : ∀ k, k < 0 → parseFieldDescriptor (TJ6 k).2.2.1 = some (tyJ6 k) := by decide +kernel
abbrev cJ6_bitCount_0f7a4 : ByteArray := prog_13_method_49_code
def yJ6_bitCount_0f7a4 : MethodName := ⟨RJ6, "bitCount", "(I)I"⟩
def RJ9 : String := "java/lang/Math"
def TJ9 : u_T := fun k => match k with
  | _ => ("", "", "", false)
def tyJ9 : Nat → FieldType := fun k => match k with
  | _ => .int
abbrev wsJ90 : List Cond := u_ws RJ9 TJ9 0
theorem nmJ9 : ∀ a, a < 0 → ∀ b, b < 0 → a ≠ b → (TJ9 a).2.1 ≠ (TJ9 b).2.1 := by decide +kernel
theorem tyJ9_ok : ∀ k, k < 0 → parseFieldDescriptor (TJ9 k).2.2.1 = some (tyJ9 k) := by decide +kernel
abbrev cJ9_abs_0f7a4 : ByteArray := prog_14_method_59_code
def yJ9_abs_0f7a4 : MethodName := ⟨RJ9, "abs", "(I)I"⟩
def RL : String := "HandSpansLaw"
abbrev cL_append : ByteArray := method_3_code
def yL_append : MethodName := ⟨RL, "append", "(LHandSpans;I[J)I"⟩
abbrev cL_load : ByteArray := method_4_code
def yL_load : MethodName := ⟨RL, "load", "(LHandSpans;[J)I"⟩
abbrev cL_about : ByteArray := method_5_code
def yL_about : MethodName := ⟨RL, "about", "(LHandSpans;I[J)I"⟩
abbrev cL_cell : ByteArray := method_6_code
def yL_cell : MethodName := ⟨RL, "cell", "(LHandSpans;IIZ[J)I"⟩
abbrev cL_set : ByteArray := method_7_code
def yL_set : MethodName := ⟨RL, "set", "(LHandSpans;II[J)I"⟩
abbrev cL_write : ByteArray := method_8_code
def yL_write : MethodName := ⟨RL, "write", "(LHandSpans;III[J)I"⟩
abbrev cL_transpose : ByteArray := method_9_code
def yL_transpose : MethodName := ⟨RL, "transpose", "(LHandSpans;II[J)I"⟩
abbrev cL_exchange : ByteArray := method_10_code
def yL_exchange : MethodName := ⟨RL, "exchange", "(LHandSpans;II[J)I"⟩
abbrev cL_staff : ByteArray := method_11_code
def yL_staff : MethodName := ⟨RL, "staff", "(LHandSpans;Z[J)I"⟩
abbrev cL_insertBeat : ByteArray := method_12_code
def yL_insertBeat : MethodName := ⟨RL, "insertBeat", "(LHandSpans;I[J)I"⟩
abbrev cL_removeBeat : ByteArray := method_13_code
def yL_removeBeat : MethodName := ⟨RL, "removeBeat", "(LHandSpans;I[J)I"⟩
abbrev cL_undo : ByteArray := method_14_code
def yL_undo : MethodName := ⟨RL, "undo", "(LHandSpans;[J)I"⟩
abbrev cL_note : ByteArray := method_15_code
def yL_note : MethodName := ⟨RL, "note", "(LHandSpans;III[J)I"⟩
abbrev cL_hand : ByteArray := method_16_code
def yL_hand : MethodName := ⟨RL, "hand", "(LHandSpans;III[J)I"⟩
abbrev cL_beat : ByteArray := method_17_code
def yL_beat : MethodName := ⟨RL, "beat", "(LHandSpans;II[J)I"⟩
abbrev cL_whole : ByteArray := method_18_code
def yL_whole : MethodName := ⟨RL, "whole", "(LHandSpans;I[J)I"⟩
abbrev cL_whatIf : ByteArray := method_19_code
def yL_whatIf : MethodName := ⟨RL, "whatIf", "(LHandSpans;III[J)I"⟩
abbrev cL_bestTransposition : ByteArray := method_20_code
def yL_bestTransposition : MethodName := ⟨RL, "bestTransposition", "(LHandSpans;I[J)I"⟩
abbrev cL_runScript : ByteArray := method_21_code
def yL_runScript : MethodName := ⟨RL, "runScript", "(LHandSpans;IJ[J)I"⟩
abbrev cL_simulate : ByteArray := method_22_code
def yL_simulate : MethodName := ⟨RL, "simulate", "(LHandSpans;JI[J)I"⟩
abbrev cL_save : ByteArray := method_23_code
def yL_save : MethodName := ⟨RL, "save", "(LHandSpans;I[J)I"⟩
abbrev cL_restore : ByteArray := method_24_code
def yL_restore : MethodName := ⟨RL, "restore", "(LHandSpans;I[J)I"⟩
abbrev cL_law : ByteArray := code
def yL_law : MethodName := ⟨RL, "law", "([I)Z"⟩
abbrev vwCl : List vw_C := [(RX0, TX0, 14), (RX1, TX1, 3), (RX2, TX2, 5), (RX3, TX3, 4), (RX4, TX4, 3), (RX5, TX5, 7), (RX6, TX6, 19)]
