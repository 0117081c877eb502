set_option maxRecDepth 100000 in
set_option maxHeartbeats 4000000 in
theorem mm_858 : (Jvm.Cond.code ({ cls := "HandSpansLaw", name := "beats", desc := "(LHandSpans;)Z" } : Jvm.MethodName) method_29_code (23 : Nat) (Option.some Jvm.ClassFile.FieldType.boolean)) ∈ lw_tbl := List.mem_of_getElem? (i := 858) rfl
