-- ===== PART A: goes FIRST, ahead of the names: the tables' words, and 'selects' of the private methods out of them =====
/-- a private method of a class that the tables say can be made, by its rows of tables_1 -/
def lw_okq (q : MethodName × Nat) : Prop := (q.1.cls ≠ "java/lang/invoke/MethodHandle" ∧ q.1.cls ≠ "java/lang/invoke/VarHandle") ∧ Cond.instantiable q.1.cls q.2 ∈ tables_1 ∧ Cond.privateMethod q.1 ∈ tables_1 ∧ Cond.instanceMethod q.1 ∈ tables_1
theorem lw_p0 : lw_okq (⟨"HandSpans$Text", "signAt", "(I)I"⟩, 3) := ⟨⟨by decide +kernel, by decide +kernel⟩, List.mem_of_getElem? (i := 24) (by decide +kernel), List.mem_of_getElem? (i := 207) (by decide +kernel), List.mem_of_getElem? (i := 208) (by decide +kernel)⟩
theorem lw_p1 : lw_okq (⟨"HandSpans$Text", "digitAt", "(I)I"⟩, 3) := ⟨⟨by decide +kernel, by decide +kernel⟩, List.mem_of_getElem? (i := 24) (by decide +kernel), List.mem_of_getElem? (i := 211) (by decide +kernel), List.mem_of_getElem? (i := 212) (by decide +kernel)⟩
theorem lw_p2 : lw_okq (⟨"HandSpans$Text", "readCell", "(LHandSpans$State;II)Z"⟩, 3) := ⟨⟨by decide +kernel, by decide +kernel⟩, List.mem_of_getElem? (i := 24) (by decide +kernel), List.mem_of_getElem? (i := 216) (by decide +kernel), List.mem_of_getElem? (i := 217) (by decide +kernel)⟩
theorem lw_p3 : lw_okq (⟨"java/lang/Throwable", "fillInStackTrace", "(I)Ljava/lang/Throwable;"⟩, 6) := ⟨⟨by decide +kernel, by decide +kernel⟩, List.mem_of_getElem? (i := 313) (by decide +kernel), List.mem_of_getElem? (i := 311) (by decide +kernel), List.mem_of_getElem? (i := 312) (by decide +kernel)⟩
theorem lw_p4 : lw_okq (⟨"HandSpans$Chord", "readSettings", "(LHandSpans$State;)V"⟩, 14) := ⟨⟨by decide +kernel, by decide +kernel⟩, List.mem_of_getElem? (i := 82) (by decide +kernel), List.mem_of_getElem? (i := 391) (by decide +kernel), List.mem_of_getElem? (i := 392) (by decide +kernel)⟩
theorem lw_p5 : lw_okq (⟨"HandSpans$Chord", "readNotes", "(LHandSpans$State;I)V"⟩, 14) := ⟨⟨by decide +kernel, by decide +kernel⟩, List.mem_of_getElem? (i := 82) (by decide +kernel), List.mem_of_getElem? (i := 396) (by decide +kernel), List.mem_of_getElem? (i := 397) (by decide +kernel)⟩
theorem lw_p6 : lw_okq (⟨"HandSpans$Chord", "reasonFor", "(II)I"⟩, 14) := ⟨⟨by decide +kernel, by decide +kernel⟩, List.mem_of_getElem? (i := 82) (by decide +kernel), List.mem_of_getElem? (i := 405) (by decide +kernel), List.mem_of_getElem? (i := 406) (by decide +kernel)⟩
theorem lw_p7 : lw_okq (⟨"HandSpans$Chord", "share", "()V"⟩, 14) := ⟨⟨by decide +kernel, by decide +kernel⟩, List.mem_of_getElem? (i := 82) (by decide +kernel), List.mem_of_getElem? (i := 412) (by decide +kernel), List.mem_of_getElem? (i := 413) (by decide +kernel)⟩
theorem lw_p8 : lw_okq (⟨"HandSpans$Chord", "insert", "(I)V"⟩, 14) := ⟨⟨by decide +kernel, by decide +kernel⟩, List.mem_of_getElem? (i := 82) (by decide +kernel), List.mem_of_getElem? (i := 416) (by decide +kernel), List.mem_of_getElem? (i := 417) (by decide +kernel)⟩
theorem lw_p9 : lw_okq (⟨"HandSpans$Chord", "measure", "(IIII)V"⟩, 14) := ⟨⟨by decide +kernel, by decide +kernel⟩, List.mem_of_getElem? (i := 82) (by decide +kernel), List.mem_of_getElem? (i := 420) (by decide +kernel), List.mem_of_getElem? (i := 421) (by decide +kernel)⟩
theorem lw_p10 : lw_okq (⟨"HandSpans$Chord", "canPlay", "(II)Z"⟩, 14) := ⟨⟨by decide +kernel, by decide +kernel⟩, List.mem_of_getElem? (i := 82) (by decide +kernel), List.mem_of_getElem? (i := 424) (by decide +kernel), List.mem_of_getElem? (i := 425) (by decide +kernel)⟩
theorem lw_p11 : lw_okq (⟨"HandSpans$Reduction", "lookAhead", "(Z)V"⟩, 5) := ⟨⟨by decide +kernel, by decide +kernel⟩, List.mem_of_getElem? (i := 75) (by decide +kernel), List.mem_of_getElem? (i := 437) (by decide +kernel), List.mem_of_getElem? (i := 438) (by decide +kernel)⟩
theorem lw_p12 : lw_okq (⟨"HandSpans$Reduction", "chordAt", "(I)LHandSpans$Chord;"⟩, 5) := ⟨⟨by decide +kernel, by decide +kernel⟩, List.mem_of_getElem? (i := 75) (by decide +kernel), List.mem_of_getElem? (i := 441) (by decide +kernel), List.mem_of_getElem? (i := 442) (by decide +kernel)⟩
theorem lw_p13 : lw_okq (⟨"HandSpans$Reduction", "bestSplit", "(ILHandSpans$Chord;I)I"⟩, 5) := ⟨⟨by decide +kernel, by decide +kernel⟩, List.mem_of_getElem? (i := 75) (by decide +kernel), List.mem_of_getElem? (i := 449) (by decide +kernel), List.mem_of_getElem? (i := 450) (by decide +kernel)⟩
theorem lw_p14 : lw_okq (⟨"HandSpans$Reduction", "splitAt", "(I)I"⟩, 5) := ⟨⟨by decide +kernel, by decide +kernel⟩, List.mem_of_getElem? (i := 75) (by decide +kernel), List.mem_of_getElem? (i := 480) (by decide +kernel), List.mem_of_getElem? (i := 481) (by decide +kernel)⟩
theorem lw_p15 : lw_okq (⟨"HandSpans$Reduction", "shareOfBeat", "(II)I"⟩, 5) := ⟨⟨by decide +kernel, by decide +kernel⟩, List.mem_of_getElem? (i := 75) (by decide +kernel), List.mem_of_getElem? (i := 488) (by decide +kernel), List.mem_of_getElem? (i := 489) (by decide +kernel)⟩
def lw_privs_1 : List (MethodName × Nat) := [(⟨"HandSpans$Text", "signAt", "(I)I"⟩, 3), (⟨"HandSpans$Text", "digitAt", "(I)I"⟩, 3), (⟨"HandSpans$Text", "readCell", "(LHandSpans$State;II)Z"⟩, 3), (⟨"java/lang/Throwable", "fillInStackTrace", "(I)Ljava/lang/Throwable;"⟩, 6), (⟨"HandSpans$Chord", "readSettings", "(LHandSpans$State;)V"⟩, 14), (⟨"HandSpans$Chord", "readNotes", "(LHandSpans$State;I)V"⟩, 14), (⟨"HandSpans$Chord", "reasonFor", "(II)I"⟩, 14), (⟨"HandSpans$Chord", "share", "()V"⟩, 14), (⟨"HandSpans$Chord", "insert", "(I)V"⟩, 14), (⟨"HandSpans$Chord", "measure", "(IIII)V"⟩, 14), (⟨"HandSpans$Chord", "canPlay", "(II)Z"⟩, 14), (⟨"HandSpans$Reduction", "lookAhead", "(Z)V"⟩, 5), (⟨"HandSpans$Reduction", "chordAt", "(I)LHandSpans$Chord;"⟩, 5), (⟨"HandSpans$Reduction", "bestSplit", "(ILHandSpans$Chord;I)I"⟩, 5), (⟨"HandSpans$Reduction", "splitAt", "(I)I"⟩, 5), (⟨"HandSpans$Reduction", "shareOfBeat", "(II)I"⟩, 5)]
theorem lw_r1 : ∀ q ∈ lw_privs_1, lw_okq q := List.forall_mem_cons.mpr ⟨lw_p0, List.forall_mem_cons.mpr ⟨lw_p1, List.forall_mem_cons.mpr ⟨lw_p2, List.forall_mem_cons.mpr ⟨lw_p3, List.forall_mem_cons.mpr ⟨lw_p4, List.forall_mem_cons.mpr ⟨lw_p5, List.forall_mem_cons.mpr ⟨lw_p6, List.forall_mem_cons.mpr ⟨lw_p7, List.forall_mem_cons.mpr ⟨lw_p8, List.forall_mem_cons.mpr ⟨lw_p9, List.forall_mem_cons.mpr ⟨lw_p10, List.forall_mem_cons.mpr ⟨lw_p11, List.forall_mem_cons.mpr ⟨lw_p12, List.forall_mem_cons.mpr ⟨lw_p13, List.forall_mem_cons.mpr ⟨lw_p14, List.forall_mem_cons.mpr ⟨lw_p15, fun _ h => absurd h List.not_mem_nil⟩⟩⟩⟩⟩⟩⟩⟩⟩⟩⟩⟩⟩⟩⟩⟩
theorem lw_p16 : lw_okq (⟨"HandSpans$Reduction", "costs", "(I)I"⟩, 5) := ⟨⟨by decide +kernel, by decide +kernel⟩, List.mem_of_getElem? (i := 75) (by decide +kernel), List.mem_of_getElem? (i := 492) (by decide +kernel), List.mem_of_getElem? (i := 493) (by decide +kernel)⟩
theorem lw_p17 : lw_okq (⟨"HandSpans$Reduction", "cutStaves", "(I)I"⟩, 5) := ⟨⟨by decide +kernel, by decide +kernel⟩, List.mem_of_getElem? (i := 75) (by decide +kernel), List.mem_of_getElem? (i := 496) (by decide +kernel), List.mem_of_getElem? (i := 497) (by decide +kernel)⟩
theorem lw_p18 : lw_okq (⟨"HandSpans$Reduction", "move", "(II)I"⟩, 5) := ⟨⟨by decide +kernel, by decide +kernel⟩, List.mem_of_getElem? (i := 75) (by decide +kernel), List.mem_of_getElem? (i := 503) (by decide +kernel), List.mem_of_getElem? (i := 504) (by decide +kernel)⟩
theorem lw_p19 : lw_okq (⟨"HandSpans", "requireCell", "(II)V"⟩, 7) := ⟨⟨by decide +kernel, by decide +kernel⟩, List.mem_of_getElem? (i := 16) (by decide +kernel), List.mem_of_getElem? (i := 603) (by decide +kernel), List.mem_of_getElem? (i := 604) (by decide +kernel)⟩
theorem lw_p20 : lw_okq (⟨"HandSpans", "requireStaff", "(I)V"⟩, 7) := ⟨⟨by decide +kernel, by decide +kernel⟩, List.mem_of_getElem? (i := 16) (by decide +kernel), List.mem_of_getElem? (i := 607) (by decide +kernel), List.mem_of_getElem? (i := 608) (by decide +kernel)⟩
theorem lw_p21 : lw_okq (⟨"HandSpans", "requireBeat", "(I)V"⟩, 7) := ⟨⟨by decide +kernel, by decide +kernel⟩, List.mem_of_getElem? (i := 16) (by decide +kernel), List.mem_of_getElem? (i := 612) (by decide +kernel), List.mem_of_getElem? (i := 613) (by decide +kernel)⟩
theorem lw_p22 : lw_okq (⟨"HandSpans", "numberOfTrial", "(I)I"⟩, 7) := ⟨⟨by decide +kernel, by decide +kernel⟩, List.mem_of_getElem? (i := 16) (by decide +kernel), List.mem_of_getElem? (i := 770) (by decide +kernel), List.mem_of_getElem? (i := 771) (by decide +kernel)⟩
theorem lw_p23 : lw_okq (⟨"HandSpans", "succeeds", "(I)Z"⟩, 7) := ⟨⟨by decide +kernel, by decide +kernel⟩, List.mem_of_getElem? (i := 16) (by decide +kernel), List.mem_of_getElem? (i := 793) (by decide +kernel), List.mem_of_getElem? (i := 794) (by decide +kernel)⟩
theorem lw_p24 : lw_okq (⟨"HandSpans", "triedSetting", "(II)Z"⟩, 7) := ⟨⟨by decide +kernel, by decide +kernel⟩, List.mem_of_getElem? (i := 16) (by decide +kernel), List.mem_of_getElem? (i := 797) (by decide +kernel), List.mem_of_getElem? (i := 798) (by decide +kernel)⟩
theorem lw_p25 : lw_okq (⟨"HandSpans", "triedCell", "(III)Z"⟩, 7) := ⟨⟨by decide +kernel, by decide +kernel⟩, List.mem_of_getElem? (i := 16) (by decide +kernel), List.mem_of_getElem? (i := 801) (by decide +kernel), List.mem_of_getElem? (i := 802) (by decide +kernel)⟩
theorem lw_p26 : lw_okq (⟨"HandSpans", "triedExchange", "(II)Z"⟩, 7) := ⟨⟨by decide +kernel, by decide +kernel⟩, List.mem_of_getElem? (i := 16) (by decide +kernel), List.mem_of_getElem? (i := 806) (by decide +kernel), List.mem_of_getElem? (i := 807) (by decide +kernel)⟩
theorem lw_p27 : lw_okq (⟨"HandSpans", "triedRemoval", "(I)Z"⟩, 7) := ⟨⟨by decide +kernel, by decide +kernel⟩, List.mem_of_getElem? (i := 16) (by decide +kernel), List.mem_of_getElem? (i := 810) (by decide +kernel), List.mem_of_getElem? (i := 811) (by decide +kernel)⟩
theorem lw_p28 : lw_okq (⟨"HandSpans", "simulateRound", "(I)V"⟩, 7) := ⟨⟨by decide +kernel, by decide +kernel⟩, List.mem_of_getElem? (i := 16) (by decide +kernel), List.mem_of_getElem? (i := 824) (by decide +kernel), List.mem_of_getElem? (i := 825) (by decide +kernel)⟩
def lw_privs_2 : List (MethodName × Nat) := [(⟨"HandSpans$Reduction", "costs", "(I)I"⟩, 5), (⟨"HandSpans$Reduction", "cutStaves", "(I)I"⟩, 5), (⟨"HandSpans$Reduction", "move", "(II)I"⟩, 5), (⟨"HandSpans", "requireCell", "(II)V"⟩, 7), (⟨"HandSpans", "requireStaff", "(I)V"⟩, 7), (⟨"HandSpans", "requireBeat", "(I)V"⟩, 7), (⟨"HandSpans", "numberOfTrial", "(I)I"⟩, 7), (⟨"HandSpans", "succeeds", "(I)Z"⟩, 7), (⟨"HandSpans", "triedSetting", "(II)Z"⟩, 7), (⟨"HandSpans", "triedCell", "(III)Z"⟩, 7), (⟨"HandSpans", "triedExchange", "(II)Z"⟩, 7), (⟨"HandSpans", "triedRemoval", "(I)Z"⟩, 7), (⟨"HandSpans", "simulateRound", "(I)V"⟩, 7)]
theorem lw_r2 : ∀ q ∈ lw_privs_2, lw_okq q := List.forall_mem_cons.mpr ⟨lw_p16, List.forall_mem_cons.mpr ⟨lw_p17, List.forall_mem_cons.mpr ⟨lw_p18, List.forall_mem_cons.mpr ⟨lw_p19, List.forall_mem_cons.mpr ⟨lw_p20, List.forall_mem_cons.mpr ⟨lw_p21, List.forall_mem_cons.mpr ⟨lw_p22, List.forall_mem_cons.mpr ⟨lw_p23, List.forall_mem_cons.mpr ⟨lw_p24, List.forall_mem_cons.mpr ⟨lw_p25, List.forall_mem_cons.mpr ⟨lw_p26, List.forall_mem_cons.mpr ⟨lw_p27, List.forall_mem_cons.mpr ⟨lw_p28, fun _ h => absurd h List.not_mem_nil⟩⟩⟩⟩⟩⟩⟩⟩⟩⟩⟩⟩⟩
def lw_privs : List (MethodName × Nat) := lw_privs_1 ++ (lw_privs_2)
def lw_tbl : List Cond := k2_sels lw_privs ++ tables_1
theorem lw_privs_ok : ∀ q ∈ lw_privs, lw_okq q := by
  show ∀ q ∈ lw_privs_1 ++ (lw_privs_2), lw_okq q
  exact List.forall_mem_append.mpr ⟨lw_r1, lw_r2⟩
-- ===== end of PART A; then your names; then what follows =====
def RX0 : String := "HandSpans$Chord"
def TX0 : u_T := fun k => match k with
  | 0 => ("HandSpans$Chord", "spans", "[I", true)
  | 1 => ("HandSpans$Chord", "fingers", "I", false)
  | 2 => ("HandSpans$Chord", "reach", "I", false)
  | 3 => ("HandSpans$Chord", "octaveRule", "Z", false)
  | 4 => ("HandSpans$Chord", "pitches", "[I", true)
  | 5 => ("HandSpans$Chord", "reasons", "[I", true)
  | 6 => ("HandSpans$Chord", "held", "I", false)
  | 7 => ("HandSpans$Chord", "keptHolds", "I", false)
  | 8 => ("HandSpans$Chord", "rising", "[I", true)
  | 9 => ("HandSpans$Chord", "size", "I", false)
  | 10 => ("HandSpans$Chord", "possible", "I", false)
  | 11 => ("HandSpans$Chord", "leftStaves", "[I", true)
  | 12 => ("HandSpans$Chord", "positions", "[[I", true)
  | _ => ("HandSpans$Chord", "widths", "[[I", true)
def tyX0 : Nat → FieldType := fun k => match k with
  | 0 => .array .int
  | 1 => .int
  | 2 => .int
  | 3 => .boolean
  | 4 => .array .int
  | 5 => .array .int
  | 6 => .int
  | 7 => .int
  | 8 => .array .int
  | 9 => .int
  | 10 => .int
  | 11 => .array .int
  | 12 => .array (.array .int)
  | _ => .array (.array .int)
abbrev wsX00 : List Cond := u_ws RX0 TX0 14
theorem nmX0 : ∀ a, a < 14 → ∀ b, b < 14 → a ≠ b → (TX0 a).2.1 ≠ (TX0 b).2.1 := by decide +kernel
theorem tyX0_ok : ∀ k, k < 14 → parseFieldDescriptor (TX0 k).2.2.1 = some (tyX0 k) := by decide +kernel
abbrev cX0_init : ByteArray := prog_2_method_1_code
def yX0_init : MethodName := ⟨RX0, "<init>", "()V"⟩
abbrev cX0_read : ByteArray := prog_2_method_2_code
def yX0_read : MethodName := ⟨RX0, "read", "(LHandSpans$State;I)V"⟩
abbrev cX0_readSettings : ByteArray := prog_2_method_3_code
def yX0_readSettings : MethodName := ⟨RX0, "readSettings", "(LHandSpans$State;)V"⟩
abbrev cX0_readNotes : ByteArray := prog_2_method_4_code
def yX0_readNotes : MethodName := ⟨RX0, "readNotes", "(LHandSpans$State;I)V"⟩
abbrev cX0_reasonFor : ByteArray := prog_2_method_5_code
def yX0_reasonFor : MethodName := ⟨RX0, "reasonFor", "(II)I"⟩
abbrev cX0_share : ByteArray := prog_2_method_6_code
def yX0_share : MethodName := ⟨RX0, "share", "()V"⟩
abbrev cX0_insert : ByteArray := prog_2_method_7_code
def yX0_insert : MethodName := ⟨RX0, "insert", "(I)V"⟩
abbrev cX0_measure : ByteArray := prog_2_method_8_code
def yX0_measure : MethodName := ⟨RX0, "measure", "(IIII)V"⟩
abbrev cX0_canPlay : ByteArray := prog_2_method_9_code
def yX0_canPlay : MethodName := ⟨RX0, "canPlay", "(II)Z"⟩
abbrev cX0_isPossible : ByteArray := prog_2_method_10_code
def yX0_isPossible : MethodName := ⟨RX0, "isPossible", "(I)Z"⟩
abbrev cX0_stavesOf : ByteArray := prog_2_method_11_code
def yX0_stavesOf : MethodName := ⟨RX0, "stavesOf", "(II)I"⟩
abbrev cX0_countOf : ByteArray := prog_2_method_12_code
def yX0_countOf : MethodName := ⟨RX0, "countOf", "(II)I"⟩
abbrev cX0_isRolled : ByteArray := prog_2_method_13_code
def yX0_isRolled : MethodName := ⟨RX0, "isRolled", "(II)Z"⟩
abbrev cX0_countRolled : ByteArray := prog_2_method_14_code
def yX0_countRolled : MethodName := ⟨RX0, "countRolled", "(I)I"⟩
abbrev cX0_move : ByteArray := prog_2_method_15_code
def yX0_move : MethodName := ⟨RX0, "move", "(IILHandSpans$Chord;I)I"⟩
abbrev cX0_cutStaves : ByteArray := prog_2_method_16_code
def yX0_cutStaves : MethodName := ⟨RX0, "cutStaves", "(ILHandSpans$Chord;I)I"⟩
abbrev cX0_costs : ByteArray := prog_2_method_17_code
def yX0_costs : MethodName := ⟨RX0, "costs", "(ILHandSpans$Chord;I)I"⟩
abbrev cX0_countLeftOut : ByteArray := prog_2_method_18_code
def yX0_countLeftOut : MethodName := ⟨RX0, "countLeftOut", "(I)I"⟩
def RX1 : String := "HandSpans$History"
def TX1 : u_T := fun k => match k with
  | 0 => ("HandSpans$History", "ring", "[LHandSpans$State;", true)
  | 1 => ("HandSpans$History", "next", "I", false)
  | _ => ("HandSpans$History", "count", "I", false)
def tyX1 : Nat → FieldType := fun k => match k with
  | 0 => .array (.object "HandSpans$State")
  | 1 => .int
  | _ => .int
abbrev wsX10 : List Cond := u_ws RX1 TX1 3
theorem nmX1 : ∀ a, a < 3 → ∀ b, b < 3 → a ≠ b → (TX1 a).2.1 ≠ (TX1 b).2.1 := by decide +kernel
theorem tyX1_ok : ∀ k, k < 3 → parseFieldDescriptor (TX1 k).2.2.1 = some (tyX1 k) := by decide +kernel
abbrev cX1_init : ByteArray := prog_3_method_1_code
def yX1_init : MethodName := ⟨RX1, "<init>", "()V"⟩
abbrev cX1_isEmpty : ByteArray := prog_3_method_2_code
def yX1_isEmpty : MethodName := ⟨RX1, "isEmpty", "()Z"⟩
abbrev cX1_forget : ByteArray := prog_3_method_3_code
def yX1_forget : MethodName := ⟨RX1, "forget", "()V"⟩
abbrev cX1_remember : ByteArray := prog_3_method_4_code
def yX1_remember : MethodName := ⟨RX1, "remember", "(LHandSpans$State;)V"⟩
abbrev cX1_takeBack : ByteArray := prog_3_method_5_code
def yX1_takeBack : MethodName := ⟨RX1, "takeBack", "(LHandSpans$State;)I"⟩
def RX2 : String := "HandSpans$Reduction"
def TX2 : u_T := fun k => match k with
  | 0 => ("HandSpans$Reduction", "chords", "[LHandSpans$Chord;", true)
  | 1 => ("HandSpans$Reduction", "silence", "LHandSpans$Chord;", true)
  | 2 => ("HandSpans$Reduction", "splits", "[I", true)
  | 3 => ("HandSpans$Reduction", "ahead", "[[I", true)
  | _ => ("HandSpans$Reduction", "beats", "I", false)
def tyX2 : Nat → FieldType := fun k => match k with
  | 0 => .array (.object "HandSpans$Chord")
  | 1 => .object "HandSpans$Chord"
  | 2 => .array .int
  | 3 => .array (.array .int)
  | _ => .int
abbrev wsX20 : List Cond := u_ws RX2 TX2 5
theorem nmX2 : ∀ a, a < 5 → ∀ b, b < 5 → a ≠ b → (TX2 a).2.1 ≠ (TX2 b).2.1 := by decide +kernel
theorem tyX2_ok : ∀ k, k < 5 → parseFieldDescriptor (TX2 k).2.2.1 = some (tyX2 k) := by decide +kernel
abbrev cX2_init : ByteArray := prog_4_method_1_code
def yX2_init : MethodName := ⟨RX2, "<init>", "()V"⟩
abbrev cX2_make : ByteArray := prog_4_method_2_code
def yX2_make : MethodName := ⟨RX2, "make", "(LHandSpans$State;)V"⟩
abbrev cX2_lookAhead : ByteArray := prog_4_method_3_code
def yX2_lookAhead : MethodName := ⟨RX2, "lookAhead", "(Z)V"⟩
abbrev cX2_bestSplit : ByteArray := prog_4_method_4_code
def yX2_bestSplit : MethodName := ⟨RX2, "bestSplit", "(ILHandSpans$Chord;I)I"⟩
abbrev cX2_chordAt : ByteArray := prog_4_method_5_code
def yX2_chordAt : MethodName := ⟨RX2, "chordAt", "(I)LHandSpans$Chord;"⟩
abbrev cX2_splitAt : ByteArray := prog_4_method_6_code
def yX2_splitAt : MethodName := ⟨RX2, "splitAt", "(I)I"⟩
abbrev cX2_cutStaves : ByteArray := prog_4_method_7_code
def yX2_cutStaves : MethodName := ⟨RX2, "cutStaves", "(I)I"⟩
abbrev cX2_move : ByteArray := prog_4_method_8_code
def yX2_move : MethodName := ⟨RX2, "move", "(II)I"⟩
abbrev cX2_costs : ByteArray := prog_4_method_9_code
def yX2_costs : MethodName := ⟨RX2, "costs", "(I)I"⟩
abbrev cX2_numberOfNote : ByteArray := prog_4_method_10_code
def yX2_numberOfNote : MethodName := ⟨RX2, "numberOfNote", "(III)I"⟩
abbrev cX2_numberOfHand : ByteArray := prog_4_method_11_code
def yX2_numberOfHand : MethodName := ⟨RX2, "numberOfHand", "(III)I"⟩
abbrev cX2_numberOfBeat : ByteArray := prog_4_method_12_code
def yX2_numberOfBeat : MethodName := ⟨RX2, "numberOfBeat", "(II)I"⟩
abbrev cX2_numberOfWhole : ByteArray := prog_4_method_13_code
def yX2_numberOfWhole : MethodName := ⟨RX2, "numberOfWhole", "(I)I"⟩
abbrev cX2_shareOfBeat : ByteArray := prog_4_method_14_code
def yX2_shareOfBeat : MethodName := ⟨RX2, "shareOfBeat", "(II)I"⟩
def RX3 : String := "HandSpans$State"
def TX3 : u_T := fun k => match k with
  | 0 => ("HandSpans$State", "settings", "[I", true)
  | 1 => ("HandSpans$State", "cells", "[I", true)
  | 2 => ("HandSpans$State", "staves", "I", false)
  | _ => ("HandSpans$State", "beats", "I", false)
def tyX3 : Nat → FieldType := fun k => match k with
  | 0 => .array .int
  | 1 => .array .int
  | 2 => .int
  | _ => .int
abbrev wsX30 : List Cond := u_ws RX3 TX3 4
theorem nmX3 : ∀ a, a < 4 → ∀ b, b < 4 → a ≠ b → (TX3 a).2.1 ≠ (TX3 b).2.1 := by decide +kernel
theorem tyX3_ok : ∀ k, k < 4 → parseFieldDescriptor (TX3 k).2.2.1 = some (tyX3 k) := by decide +kernel
abbrev cX3_init : ByteArray := prog_5_method_1_code
def yX3_init : MethodName := ⟨RX3, "<init>", "()V"⟩
abbrev cX3_becomeRests : ByteArray := prog_5_method_2_code
def yX3_becomeRests : MethodName := ⟨RX3, "becomeRests", "(II)V"⟩
abbrev cX3_resetSettings : ByteArray := prog_5_method_3_code
def yX3_resetSettings : MethodName := ⟨RX3, "resetSettings", "()V"⟩
abbrev cX3_takeFrom : ByteArray := prog_5_method_4_code
def yX3_takeFrom : MethodName := ⟨RX3, "takeFrom", "(LHandSpans$State;)V"⟩
abbrev cX3_isPitch : ByteArray := prog_5_method_5_code
def yX3_isPitch : MethodName := ⟨RX3, "isPitch", "(I)Z"⟩
abbrev cX3_isSetting : ByteArray := prog_5_method_6_code
def yX3_isSetting : MethodName := ⟨RX3, "isSetting", "(I)Z"⟩
abbrev cX3_allowsSetting : ByteArray := prog_5_method_7_code
def yX3_allowsSetting : MethodName := ⟨RX3, "allowsSetting", "(II)Z"⟩
abbrev cX3_hasStaff : ByteArray := prog_5_method_8_code
def yX3_hasStaff : MethodName := ⟨RX3, "hasStaff", "(I)Z"⟩
abbrev cX3_hasBeat : ByteArray := prog_5_method_9_code
def yX3_hasBeat : MethodName := ⟨RX3, "hasBeat", "(I)Z"⟩
abbrev cX3_hasCell : ByteArray := prog_5_method_10_code
def yX3_hasCell : MethodName := ⟨RX3, "hasCell", "(II)Z"⟩
abbrev cX3_allowsHold : ByteArray := prog_5_method_11_code
def yX3_allowsHold : MethodName := ⟨RX3, "allowsHold", "(II)Z"⟩
abbrev cX3_allowsMoving : ByteArray := prog_5_method_12_code
def yX3_allowsMoving : MethodName := ⟨RX3, "allowsMoving", "(II)Z"⟩
abbrev cX3_settingAt : ByteArray := prog_5_method_13_code
def yX3_settingAt : MethodName := ⟨RX3, "settingAt", "(I)I"⟩
abbrev cX3_written : ByteArray := prog_5_method_14_code
def yX3_written : MethodName := ⟨RX3, "written", "(II)I"⟩
abbrev cX3_sounding : ByteArray := prog_5_method_15_code
def yX3_sounding : MethodName := ⟨RX3, "sounding", "(II)I"⟩
abbrev cX3_countStruck : ByteArray := prog_5_method_16_code
def yX3_countStruck : MethodName := ⟨RX3, "countStruck", "()I"⟩
abbrev cX3_countStruckOf : ByteArray := prog_5_method_17_code
def yX3_countStruckOf : MethodName := ⟨RX3, "countStruckOf", "(I)I"⟩
abbrev cX3_countHolds : ByteArray := prog_5_method_18_code
def yX3_countHolds : MethodName := ⟨RX3, "countHolds", "()I"⟩
abbrev cX3_changeSetting : ByteArray := prog_5_method_19_code
def yX3_changeSetting : MethodName := ⟨RX3, "changeSetting", "(II)V"⟩
abbrev cX3_put : ByteArray := prog_5_method_20_code
def yX3_put : MethodName := ⟨RX3, "put", "(III)V"⟩
abbrev cX3_silenceStaff : ByteArray := prog_5_method_21_code
def yX3_silenceStaff : MethodName := ⟨RX3, "silenceStaff", "(I)V"⟩
abbrev cX3_moveStaff : ByteArray := prog_5_method_22_code
def yX3_moveStaff : MethodName := ⟨RX3, "moveStaff", "(II)I"⟩
abbrev cX3_swapStaves : ByteArray := prog_5_method_23_code
def yX3_swapStaves : MethodName := ⟨RX3, "swapStaves", "(II)I"⟩
abbrev cX3_addStaff : ByteArray := prog_5_method_24_code
def yX3_addStaff : MethodName := ⟨RX3, "addStaff", "()V"⟩
abbrev cX3_dropStaff : ByteArray := prog_5_method_25_code
def yX3_dropStaff : MethodName := ⟨RX3, "dropStaff", "()V"⟩
abbrev cX3_openBeat : ByteArray := prog_5_method_26_code
def yX3_openBeat : MethodName := ⟨RX3, "openBeat", "(I)V"⟩
abbrev cX3_closeBeat : ByteArray := prog_5_method_27_code
def yX3_closeBeat : MethodName := ⟨RX3, "closeBeat", "(I)V"⟩
abbrev cX3_dropLooseHolds : ByteArray := prog_5_method_28_code
def yX3_dropLooseHolds : MethodName := ⟨RX3, "dropLooseHolds", "()V"⟩
def RX4 : String := "HandSpans$Text"
def TX4 : u_T := fun k => match k with
  | 0 => ("HandSpans$Text", "signs", "[C", true)
  | 1 => ("HandSpans$Text", "length", "I", false)
  | _ => ("HandSpans$Text", "at", "I", false)
def tyX4 : Nat → FieldType := fun k => match k with
  | 0 => .array .char
  | 1 => .int
  | _ => .int
abbrev wsX40 : List Cond := u_ws RX4 TX4 3
theorem nmX4 : ∀ a, a < 3 → ∀ b, b < 3 → a ≠ b → (TX4 a).2.1 ≠ (TX4 b).2.1 := by decide +kernel
theorem tyX4_ok : ∀ k, k < 3 → parseFieldDescriptor (TX4 k).2.2.1 = some (tyX4 k) := by decide +kernel
abbrev cX4_init : ByteArray := prog_6_method_1_code
def yX4_init : MethodName := ⟨RX4, "<init>", "()V"⟩
abbrev cX4_isFull : ByteArray := prog_6_method_2_code
def yX4_isFull : MethodName := ⟨RX4, "isFull", "()Z"⟩
abbrev cX4_add : ByteArray := prog_6_method_3_code
def yX4_add : MethodName := ⟨RX4, "add", "(C)I"⟩
abbrev cX4_empty : ByteArray := prog_6_method_4_code
def yX4_empty : MethodName := ⟨RX4, "empty", "()I"⟩
abbrev cX4_readInto : ByteArray := prog_6_method_5_code
def yX4_readInto : MethodName := ⟨RX4, "readInto", "(LHandSpans$State;)I"⟩
abbrev cX4_readCell : ByteArray := prog_6_method_6_code
def yX4_readCell : MethodName := ⟨RX4, "readCell", "(LHandSpans$State;II)Z"⟩
abbrev cX4_signAt : ByteArray := prog_6_method_7_code
def yX4_signAt : MethodName := ⟨RX4, "signAt", "(I)I"⟩
abbrev cX4_digitAt : ByteArray := prog_6_method_8_code
def yX4_digitAt : MethodName := ⟨RX4, "digitAt", "(I)I"⟩
def RX5 : String := "HandSpans"
def TX5 : u_T := fun k => match k with
  | 0 => ("HandSpans", "text", "LHandSpans$Text;", true)
  | 1 => ("HandSpans", "now", "LHandSpans$State;", true)
  | 2 => ("HandSpans", "trial", "LHandSpans$State;", true)
  | 3 => ("HandSpans", "reduction", "LHandSpans$Reduction;", true)
  | 4 => ("HandSpans", "history", "LHandSpans$History;", true)
  | 5 => ("HandSpans", "slots", "[LHandSpans$State;", true)
  | _ => ("HandSpans", "filled", "[Z", true)
def tyX5 : Nat → FieldType := fun k => match k with
  | 0 => .object "HandSpans$Text"
  | 1 => .object "HandSpans$State"
  | 2 => .object "HandSpans$State"
  | 3 => .object "HandSpans$Reduction"
  | 4 => .object "HandSpans$History"
  | 5 => .array (.object "HandSpans$State")
  | _ => .array .boolean
abbrev wsX50 : List Cond := u_ws RX5 TX5 7
theorem nmX5 : ∀ a, a < 7 → ∀ b, b < 7 → a ≠ b → (TX5 a).2.1 ≠ (TX5 b).2.1 := by decide +kernel
theorem tyX5_ok : ∀ k, k < 7 → parseFieldDescriptor (TX5 k).2.2.1 = some (tyX5 k) := by decide +kernel
abbrev cX5_init : ByteArray := prog_1_method_1_code
def yX5_init : MethodName := ⟨RX5, "<init>", "()V"⟩
abbrev cX5_append : ByteArray := prog_1_method_2_code
def yX5_append : MethodName := ⟨RX5, "append", "(I)I"⟩
abbrev cX5_clearText : ByteArray := prog_1_method_3_code
def yX5_clearText : MethodName := ⟨RX5, "clearText", "()I"⟩
abbrev cX5_errorPosition : ByteArray := prog_1_method_4_code
def yX5_errorPosition : MethodName := ⟨RX5, "errorPosition", "()I"⟩
abbrev cX5_load : ByteArray := prog_1_method_5_code
def yX5_load : MethodName := ⟨RX5, "load", "()I"⟩
abbrev cX5_about : ByteArray := prog_1_method_6_code
def yX5_about : MethodName := ⟨RX5, "about", "(I)I"⟩
abbrev cX5_cell : ByteArray := prog_1_method_7_code
def yX5_cell : MethodName := ⟨RX5, "cell", "(IIZ)I"⟩
abbrev cX5_set : ByteArray := prog_1_method_8_code
def yX5_set : MethodName := ⟨RX5, "set", "(II)I"⟩
abbrev cX5_write : ByteArray := prog_1_method_9_code
def yX5_write : MethodName := ⟨RX5, "write", "(III)I"⟩
abbrev cX5_transpose : ByteArray := prog_1_method_10_code
def yX5_transpose : MethodName := ⟨RX5, "transpose", "(II)I"⟩
abbrev cX5_exchange : ByteArray := prog_1_method_11_code
def yX5_exchange : MethodName := ⟨RX5, "exchange", "(II)I"⟩
abbrev cX5_staff : ByteArray := prog_1_method_12_code
def yX5_staff : MethodName := ⟨RX5, "staff", "(Z)I"⟩
abbrev cX5_insertBeat : ByteArray := prog_1_method_13_code
def yX5_insertBeat : MethodName := ⟨RX5, "insertBeat", "(I)I"⟩
abbrev cX5_removeBeat : ByteArray := prog_1_method_14_code
def yX5_removeBeat : MethodName := ⟨RX5, "removeBeat", "(I)I"⟩
abbrev cX5_undo : ByteArray := prog_1_method_15_code
def yX5_undo : MethodName := ⟨RX5, "undo", "()I"⟩
abbrev cX5_note : ByteArray := prog_1_method_16_code
def yX5_note : MethodName := ⟨RX5, "note", "(III)I"⟩
abbrev cX5_hand : ByteArray := prog_1_method_17_code
def yX5_hand : MethodName := ⟨RX5, "hand", "(III)I"⟩
abbrev cX5_beat : ByteArray := prog_1_method_18_code
def yX5_beat : MethodName := ⟨RX5, "beat", "(II)I"⟩
abbrev cX5_whole : ByteArray := prog_1_method_19_code
def yX5_whole : MethodName := ⟨RX5, "whole", "(I)I"⟩
abbrev cX5_whatIf : ByteArray := prog_1_method_20_code
def yX5_whatIf : MethodName := ⟨RX5, "whatIf", "(III)I"⟩
abbrev cX5_smallestSpan : ByteArray := prog_1_method_21_code
def yX5_smallestSpan : MethodName := ⟨RX5, "smallestSpan", "()I"⟩
abbrev cX5_dearest : ByteArray := prog_1_method_22_code
def yX5_dearest : MethodName := ⟨RX5, "dearest", "()I"⟩
abbrev cX5_bestTransposition : ByteArray := prog_1_method_23_code
def yX5_bestTransposition : MethodName := ⟨RX5, "bestTransposition", "(I)I"⟩
abbrev cX5_runScript : ByteArray := prog_1_method_24_code
def yX5_runScript : MethodName := ⟨RX5, "runScript", "(IJ)I"⟩
abbrev cX5_simulate : ByteArray := prog_1_method_25_code
def yX5_simulate : MethodName := ⟨RX5, "simulate", "(JI)I"⟩
abbrev cX5_save : ByteArray := prog_1_method_26_code
def yX5_save : MethodName := ⟨RX5, "save", "(I)I"⟩
abbrev cX5_restore : ByteArray := prog_1_method_27_code
def yX5_restore : MethodName := ⟨RX5, "restore", "(I)I"⟩
abbrev cX5_requireStaff : ByteArray := prog_1_method_28_code
def yX5_requireStaff : MethodName := ⟨RX5, "requireStaff", "(I)V"⟩
abbrev cX5_requireBeat : ByteArray := prog_1_method_29_code
def yX5_requireBeat : MethodName := ⟨RX5, "requireBeat", "(I)V"⟩
abbrev cX5_requireCell : ByteArray := prog_1_method_30_code
def yX5_requireCell : MethodName := ⟨RX5, "requireCell", "(II)V"⟩
abbrev cX5_requireSlot : ByteArray := prog_1_method_31_code
def yX5_requireSlot : MethodName := ⟨RX5, "requireSlot", "(I)V"⟩
abbrev cX5_requireUpTo : ByteArray := prog_1_method_32_code
def yX5_requireUpTo : MethodName := ⟨RX5, "requireUpTo", "(II)V"⟩
abbrev cX5_numberOfTrial : ByteArray := prog_1_method_33_code
def yX5_numberOfTrial : MethodName := ⟨RX5, "numberOfTrial", "(I)I"⟩
abbrev cX5_groupFromEnd : ByteArray := prog_1_method_34_code
def yX5_groupFromEnd : MethodName := ⟨RX5, "groupFromEnd", "(JI)J"⟩
abbrev cX5_succeeds : ByteArray := prog_1_method_35_code
def yX5_succeeds : MethodName := ⟨RX5, "succeeds", "(I)Z"⟩
abbrev cX5_triedSetting : ByteArray := prog_1_method_36_code
def yX5_triedSetting : MethodName := ⟨RX5, "triedSetting", "(II)Z"⟩
abbrev cX5_triedCell : ByteArray := prog_1_method_37_code
def yX5_triedCell : MethodName := ⟨RX5, "triedCell", "(III)Z"⟩
abbrev cX5_triedExchange : ByteArray := prog_1_method_38_code
def yX5_triedExchange : MethodName := ⟨RX5, "triedExchange", "(II)Z"⟩
abbrev cX5_triedRemoval : ByteArray := prog_1_method_39_code
def yX5_triedRemoval : MethodName := ⟨RX5, "triedRemoval", "(I)Z"⟩
abbrev cX5_simulateRound : ByteArray := prog_1_method_40_code
def yX5_simulateRound : MethodName := ⟨RX5, "simulateRound", "(I)V"⟩
def RJ6 : String := "java/lang/Integer"
def TJ6 : u_T := fun k => match k with
  | _ => ("", "", "", false)
def tyJ6 : Nat → FieldType := fun k => match k with
  | _ => .int
abbrev wsJ60 : List Cond := u_ws RJ6 TJ6 0
theorem nmJ6 : ∀ a, a < 0 → ∀ b, b < 0 → a ≠ b → (TJ6 a).2.1 ≠ (TJ6 b).2.1 := by decide +kernel
theorem tyJ6_ok : ∀ k, k < 0 → parseFieldDescriptor (TJ6 k).2.2.1 = some (tyJ6 k) := by decide +kernel
abbrev cJ6_bitCount_0f7a4 : ByteArray := prog_13_method_49_code
def yJ6_bitCount_0f7a4 : MethodName := ⟨RJ6, "bitCount", "(I)I"⟩
def RJ9 : String := "java/lang/Math"
def TJ9 : u_T := fun k => match k with
  | _ => ("", "", "", false)
def tyJ9 : Nat → FieldType := fun k => match k with
  | _ => .int
abbrev wsJ90 : List Cond := u_ws RJ9 TJ9 0
theorem nmJ9 : ∀ a, a < 0 → ∀ b, b < 0 → a ≠ b → (TJ9 a).2.1 ≠ (TJ9 b).2.1 := by decide +kernel
theorem tyJ9_ok : ∀ k, k < 0 → parseFieldDescriptor (TJ9 k).2.2.1 = some (tyJ9 k) := by decide +kernel
abbrev cJ9_abs_0f7a4 : ByteArray := prog_14_method_59_code
def yJ9_abs_0f7a4 : MethodName := ⟨RJ9, "abs", "(I)I"⟩
def RL : String := "HandSpansLaw"
abbrev cL_tryAppend : ByteArray := method_2_code
def yL_tryAppend : MethodName := ⟨RL, "tryAppend", "(LHandSpans;I)I"⟩
abbrev cL_tryLoad : ByteArray := method_3_code
def yL_tryLoad : MethodName := ⟨RL, "tryLoad", "(LHandSpans;)I"⟩
abbrev cL_tryAbout : ByteArray := method_4_code
def yL_tryAbout : MethodName := ⟨RL, "tryAbout", "(LHandSpans;I)I"⟩
abbrev cL_tryCell : ByteArray := method_5_code
def yL_tryCell : MethodName := ⟨RL, "tryCell", "(LHandSpans;IIZ)I"⟩
abbrev cL_trySet : ByteArray := method_6_code
def yL_trySet : MethodName := ⟨RL, "trySet", "(LHandSpans;II)I"⟩
abbrev cL_tryWrite : ByteArray := method_7_code
def yL_tryWrite : MethodName := ⟨RL, "tryWrite", "(LHandSpans;III)I"⟩
abbrev cL_tryTranspose : ByteArray := method_8_code
def yL_tryTranspose : MethodName := ⟨RL, "tryTranspose", "(LHandSpans;II)I"⟩
abbrev cL_tryExchange : ByteArray := method_9_code
def yL_tryExchange : MethodName := ⟨RL, "tryExchange", "(LHandSpans;II)I"⟩
abbrev cL_tryStaff : ByteArray := method_10_code
def yL_tryStaff : MethodName := ⟨RL, "tryStaff", "(LHandSpans;Z)I"⟩
abbrev cL_tryInsertBeat : ByteArray := method_11_code
def yL_tryInsertBeat : MethodName := ⟨RL, "tryInsertBeat", "(LHandSpans;I)I"⟩
abbrev cL_tryRemoveBeat : ByteArray := method_12_code
def yL_tryRemoveBeat : MethodName := ⟨RL, "tryRemoveBeat", "(LHandSpans;I)I"⟩
abbrev cL_tryUndo : ByteArray := method_13_code
def yL_tryUndo : MethodName := ⟨RL, "tryUndo", "(LHandSpans;)I"⟩
abbrev cL_tryNote : ByteArray := method_14_code
def yL_tryNote : MethodName := ⟨RL, "tryNote", "(LHandSpans;III)I"⟩
abbrev cL_tryHand : ByteArray := method_15_code
def yL_tryHand : MethodName := ⟨RL, "tryHand", "(LHandSpans;III)I"⟩
abbrev cL_tryBeat : ByteArray := method_16_code
def yL_tryBeat : MethodName := ⟨RL, "tryBeat", "(LHandSpans;II)I"⟩
abbrev cL_tryWhole : ByteArray := method_17_code
def yL_tryWhole : MethodName := ⟨RL, "tryWhole", "(LHandSpans;I)I"⟩
abbrev cL_tryWhatIf : ByteArray := method_18_code
def yL_tryWhatIf : MethodName := ⟨RL, "tryWhatIf", "(LHandSpans;III)I"⟩
abbrev cL_tryBestTransposition : ByteArray := method_19_code
def yL_tryBestTransposition : MethodName := ⟨RL, "tryBestTransposition", "(LHandSpans;I)I"⟩
abbrev cL_tryScript : ByteArray := method_20_code
def yL_tryScript : MethodName := ⟨RL, "tryScript", "(LHandSpans;IJ)I"⟩
abbrev cL_trySimulate : ByteArray := method_21_code
def yL_trySimulate : MethodName := ⟨RL, "trySimulate", "(LHandSpans;JI)I"⟩
abbrev cL_trySave : ByteArray := method_22_code
def yL_trySave : MethodName := ⟨RL, "trySave", "(LHandSpans;I)I"⟩
abbrev cL_tryRestore : ByteArray := method_23_code
def yL_tryRestore : MethodName := ⟨RL, "tryRestore", "(LHandSpans;I)I"⟩
abbrev cL_number : ByteArray := method_24_code
def yL_number : MethodName := ⟨RL, "number", "([II)I"⟩
abbrev cL_put : ByteArray := method_25_code
def yL_put : MethodName := ⟨RL, "put", "(LHandSpans;LHandSpans;I)Z"⟩
abbrev cL_told : ByteArray := method_26_code
def yL_told : MethodName := ⟨RL, "told", "(LHandSpans;LHandSpans;[II)Z"⟩
abbrev cL_alike : ByteArray := method_27_code
def yL_alike : MethodName := ⟨RL, "alike", "(LHandSpans;LHandSpans;)Z"⟩
abbrev cL_refuses : ByteArray := method_28_code
def yL_refuses : MethodName := ⟨RL, "refuses", "(LHandSpans;)Z"⟩
abbrev cL_beats : ByteArray := method_29_code
def yL_beats : MethodName := ⟨RL, "beats", "(LHandSpans;)Z"⟩
abbrev cL_changed : ByteArray := method_30_code
def yL_changed : MethodName := ⟨RL, "changed", "(LHandSpans;I)Z"⟩
abbrev cL_moved : ByteArray := method_31_code
def yL_moved : MethodName := ⟨RL, "moved", "(LHandSpans;II)Z"⟩
abbrev cL_scripts : ByteArray := method_32_code
def yL_scripts : MethodName := ⟨RL, "scripts", "(LHandSpans;I)Z"⟩
abbrev cL_act : ByteArray := method_33_code
def yL_act : MethodName := ⟨RL, "act", "(LHandSpans;II)I"⟩
abbrev cL_law : ByteArray := code
def yL_law : MethodName := ⟨RL, "law", "([I)Z"⟩
abbrev vwCl : List vw_C := [(RX0, TX0, 14), (RX1, TX1, 3), (RX2, TX2, 5), (RX3, TX3, 4), (RX4, TX4, 3), (RX5, TX5, 7)]
