set_option maxRecDepth 20000 in
theorem w_X3_written {X : XX} {G : GG} {Z : ZZ} (hC : Cx X G RX3 cX3_written (some .int) 0 0 0 3) (hz : ZOk G Z) (hZ : ZM Z) (q0 : Nat) (v1 : Int32) (v2 : Int32) (M : Mem) (hq0 : q0 < 18) {r : Int32} {M' : Mem} (hf : f_X3_written q0 v1 v2 M = some (r, M')) : V X G Z M 0 0 (QN X G (QcI G Z r M') 0 0) 0 [(0, .ref (Z.1 (iSt q0))), (1, .int v1), (2, .int v2)] [] := by
  unfold f_X3_written at hf
  refine r_iload_n hC dX3_written_0 1 rfl ?_
  refine r_if_lt 38 hC dX3_written_1 (by decide) (fun h => ?_) (fun h => ?_)
  · have hf := if_T hf h
    refine r_bipush (v := (-9)) hC dX3_written_38 rfl ?_
    exact r_iret hf hC (by decide) (by decide) dX3_written_40
  · have hf := if_F hf h
    refine r_iload_n hC dX3_written_4 1 rfl ?_
    refine r_aload_n hC dX3_written_5 0 rfl ?_
    refine gf_X3_25 hC (z_S hZ hq0) rfl dX3_written_6 ?_
    refine r_icmp_ge 38 hC dX3_written_9 (by decide) (fun h => ?_) (fun h => ?_)
    · have hf := if_T hf h
      refine r_bipush (v := (-9)) hC dX3_written_38 rfl ?_
      exact r_iret hf hC (by decide) (by decide) dX3_written_40
    · have hf := if_F hf h
      refine r_iload_n hC dX3_written_12 2 rfl ?_
      refine r_if_lt 38 hC dX3_written_13 (by decide) (fun h => ?_) (fun h => ?_)
      · have hf := if_T hf h
        refine r_bipush (v := (-9)) hC dX3_written_38 rfl ?_
        exact r_iret hf hC (by decide) (by decide) dX3_written_40
      · have hf := if_F hf h
        refine r_iload_n hC dX3_written_16 2 rfl ?_
        refine r_aload_n hC dX3_written_17 0 rfl ?_
        refine gf_X3_29 hC (z_S hZ hq0) rfl dX3_written_18 ?_
        refine r_icmp_ge 38 hC dX3_written_21 (by decide) (fun h => ?_) (fun h => ?_)
        · have hf := if_T hf h
          refine r_bipush (v := (-9)) hC dX3_written_38 rfl ?_
          exact r_iret hf hC (by decide) (by decide) dX3_written_40
        · have hf := if_F hf h
          refine r_aload_n hC dX3_written_24 0 rfl ?_
          refine gf_X3_15 hC (z_S hZ hq0) rfl dX3_written_25 ?_
          refine r_iload_n hC dX3_written_28 1 rfl ?_
          refine r_bipush (v := 16) hC dX3_written_29 rfl ?_
          refine r_imul hC dX3_written_31 ?_
          refine r_iload_n hC dX3_written_32 2 rfl ?_
          refine r_iadd hC dX3_written_33 ?_
          have hin := if_K hf
          have hf := if_V hf
          refine r_iald hC (z_S2 hZ hq0) (inb_vp hin) dX3_written_34 ?_
          refine r_goto 40 hC dX3_written_35 (by decide) ?_
          exact r_iret hf hC (by decide) (by decide) dX3_written_40
set_option maxRecDepth 20000 in
theorem c_X3_written {l : Launch} (hl : l.stackTraces = false) {G : GG} {Z : ZZ} (hz : ZOk G Z) (hZ : ZM Z) (q0 : Nat) (v1 : Int32) (v2 : Int32) (M : Mem) (hq0 : q0 < 18) (r : Int32) (M' : Mem) (hf : f_X3_written q0 v1 v2 M = some (r, M')) : CN (QcI G Z r M') l G Z yX3_written cX3_written 3 (some .int) 0 [.ref (Z.1 (iSt q0)), .int v1, .int v2] M :=
  CN.of [(0, .ref (Z.1 (iSt q0))), (1, .int v1), (2, .int v2)] hl (by decide +kernel) (Nat.le_of_ble_eq_true rfl) rfl (fun _ hC => w_X3_written hC hz hZ q0 v1 v2 M hq0 hf)
set_option maxRecDepth 20000 in
theorem w_X3_sounding_b2 {X : XX} {G : GG} {Z : ZZ} {r : Int32} {M' : Mem} (hC : Cx X G RX3 cX3_sounding (some .int) 1 0 0 5) (hz : ZOk G Z) (hZ : ZM Z) (q0 : Nat) (v1 : Int32) (hq0 : q0 < 18) (k2 : Int32 → Mem → Option (Int32 × Mem)) (hk2 : ∀ (u3 : Int32) (M : Mem), k2 u3 M = some (r, M') → V X G Z M 0 0 (QN X G (QcI G Z r M') 0 0) 2 [(0, .ref (Z.1 (iSt q0))), (1, .int v1), (3, .int u3)] []) (v3 : Int32) (M : Mem) (hf : f_X3_sounding_b2 q0 v1 k2 v3 M = some (r, M')) : V X G Z M 0 0 (QN X G (QcI G Z r M') 0 0) 2 [(0, .ref (Z.1 (iSt q0))), (1, .int v1), (3, .int v3)] [] := by
  unfold f_X3_sounding_b2 at hf
  refine r_iload_n hC dX3_sounding_2 2 rfl ?_
  refine r_if_lt 30 hC dX3_sounding_3 (by decide) (fun h => ?_) (fun h => ?_)
  · have hf := if_T hf h
    refine r_bipush (v := (-9)) hC dX3_sounding_30 rfl ?_
    exact r_iret hf hC (by decide) (by decide) dX3_sounding_32
  · have hf := if_F hf h
    refine r_aload_n hC dX3_sounding_6 0 rfl ?_
    refine r_iload_n hC dX3_sounding_7 1 rfl ?_
    refine r_iload_n hC dX3_sounding_8 2 rfl ?_
    refine r_callVI [] (fun r M1 h => c_X3_written (cx_st hC) hz hZ q0 v1 v3 _ hq0 r M1 h) hf cs_X3_51 hC (z_S hZ hq0) (q0 := (RX3, TX3, 4)) rfl rfl [.int v1, .int v3] rfl rfl rfl (by decide) (by decide) (Nat.le_of_ble_eq_true rfl) (by decide) (by decide) dX3_sounding_9 (fun x1 M2 hf => ?_)
    refine r_istore (L' := [(4, .int x1), (0, .ref (Z.1 (iSt q0))), (1, .int v1), (3, .int v3)]) hC dX3_sounding_12 (by decide) rfl ?_
    refine r_iload hC dX3_sounding_14 0 rfl ?_
    refine r_bipush (v := 99) hC dX3_sounding_16 rfl ?_
    refine r_icmp_eq 24 hC dX3_sounding_18 (by decide) (fun h => ?_) (fun h => ?_)
    · have hf := if_T hf h
      refine r_iinc (v := v3 + (-1)) (L' := [(3, .int (v3 + (-1))), (4, .int x1), (0, .ref (Z.1 (iSt q0))), (1, .int v1)]) hC dX3_sounding_24 3 rfl rfl (by decide) rfl ?_
      refine r_goto 2 hC dX3_sounding_27 (by decide) ?_
      refine r_L [2, 3, 0] rfl ?_
      exact hk2 _ _ hf
    · have hf := if_F hf h
      refine r_iload hC dX3_sounding_21 0 rfl ?_
      exact r_iret hf hC (by decide) (by decide) dX3_sounding_23
set_option maxRecDepth 20000 in
theorem w_X3_sounding {X : XX} {G : GG} {Z : ZZ} (hC : Cx X G RX3 cX3_sounding (some .int) 1 0 0 5) (hz : ZOk G Z) (hZ : ZM Z) (q0 : Nat) (v1 : Int32) (v2 : Int32) (M : Mem) (hq0 : q0 < 18) {r : Int32} {M' : Mem} (hf : f_X3_sounding q0 v1 v2 M = some (r, M')) : V X G Z M 0 0 (QN X G (QcI G Z r M') 0 0) 0 [(0, .ref (Z.1 (iSt q0))), (1, .int v1), (2, .int v2)] [] := by
  unfold f_X3_sounding at hf
  refine r_iload_n hC dX3_sounding_0 2 rfl ?_
  refine r_istore_n (L' := [(3, .int v2), (0, .ref (Z.1 (iSt q0))), (1, .int v1), (2, .int v2)]) hC dX3_sounding_1 (by decide) rfl ?_
  refine r_L [1, 2, 0] rfl ?_
  exact lq1_ind (P := fun (u3 : Int32) (M : Mem) => V X G Z M 0 0 (QN X G (QcI G Z r M') 0 0) 2 [(0, .ref (Z.1 (iSt q0))), (1, .int v1), (3, .int u3)] []) (fun kk hkk u3 M hf => w_X3_sounding_b2 hC hz hZ q0 v1 hq0 kk hkk u3 M hf) _ _ _ hf
set_option maxRecDepth 20000 in
theorem c_X3_sounding {l : Launch} (hl : l.stackTraces = false) {G : GG} {Z : ZZ} (hz : ZOk G Z) (hZ : ZM Z) (q0 : Nat) (v1 : Int32) (v2 : Int32) (M : Mem) (hq0 : q0 < 18) (r : Int32) (M' : Mem) (hf : f_X3_sounding q0 v1 v2 M = some (r, M')) : CN (QcI G Z r M') l G Z yX3_sounding cX3_sounding 5 (some .int) 1 [.ref (Z.1 (iSt q0)), .int v1, .int v2] M :=
  CN.of [(0, .ref (Z.1 (iSt q0))), (1, .int v1), (2, .int v2)] hl (by decide +kernel) (Nat.le_of_ble_eq_true rfl) rfl (fun _ hC => w_X3_sounding hC hz hZ q0 v1 v2 M hq0 hf)
set_option maxRecDepth 20000 in
theorem w_X3_isSetting {X : XX} {G : GG} {Z : ZZ} (hC : Cx X G RX3 cX3_isSetting (some .boolean) 0 0 0 1) (hz : ZOk G Z) (hZ : ZM Z) (v0 : Int32) (M : Mem)  {r : Int32} {M' : Mem} (hf : f_X3_isSetting v0 M = some (r, M')) : V X G Z M 0 0 (QN X G (QcI G Z r M') 0 0) 0 [(0, .int v0)] [] := by
  unfold f_X3_isSetting at hf
  refine r_iload_n hC dX3_isSetting_0 0 rfl ?_
  refine r_if_lt 14 hC dX3_isSetting_1 (by decide) (fun h => ?_) (fun h => ?_)
  · have hf := if_T hf h
    refine r_iconst (v := 0) hC dX3_isSetting_14 rfl ?_
    exact r_zret hf hC rfl rfl (by decide) (by decide) dX3_isSetting_15
  · have hf := if_F hf h
    refine r_iload_n hC dX3_isSetting_4 0 rfl ?_
    refine r_bipush (v := 6) hC dX3_isSetting_5 rfl ?_
    refine r_icmp_ge 14 hC dX3_isSetting_7 (by decide) (fun h => ?_) (fun h => ?_)
    · have hf := if_T hf h
      refine r_iconst (v := 0) hC dX3_isSetting_14 rfl ?_
      exact r_zret hf hC rfl rfl (by decide) (by decide) dX3_isSetting_15
    · have hf := if_F hf h
      refine r_iconst (v := 1) hC dX3_isSetting_10 rfl ?_
      refine r_goto 15 hC dX3_isSetting_11 (by decide) ?_
      exact r_zret hf hC rfl rfl (by decide) (by decide) dX3_isSetting_15
set_option maxRecDepth 20000 in
theorem c_X3_isSetting {l : Launch} (hl : l.stackTraces = false) {G : GG} {Z : ZZ} (hz : ZOk G Z) (hZ : ZM Z) (v0 : Int32) (M : Mem)  (r : Int32) (M' : Mem) (hf : f_X3_isSetting v0 M = some (r, M')) : CN (QcI G Z r M') l G Z yX3_isSetting cX3_isSetting 1 (some .boolean) 0 [.int v0] M :=
  CN.of [(0, .int v0)] hl (by decide +kernel) (Nat.le_of_ble_eq_true rfl) rfl (fun _ hC => w_X3_isSetting hC hz hZ v0 M  hf)
set_option maxRecDepth 20000 in
theorem w_X3_settingAt {X : XX} {G : GG} {Z : ZZ} (hC : Cx X G RX3 cX3_settingAt (some .int) 1 0 0 2) (hz : ZOk G Z) (hZ : ZM Z) (q0 : Nat) (v1 : Int32) (M : Mem) (hq0 : q0 < 18) {r : Int32} {M' : Mem} (hf : f_X3_settingAt q0 v1 M = some (r, M')) : V X G Z M 0 0 (QN X G (QcI G Z r M') 0 0) 0 [(0, .ref (Z.1 (iSt q0))), (1, .int v1)] [] := by
  unfold f_X3_settingAt at hf
  refine r_iload_n hC dX3_settingAt_0 1 rfl ?_
  refine r_callSI [] (fun r M1 h => c_X3_isSetting (cx_st hC) hz hZ v1 _  r M1 h) hf cs_X3_35 hC  rfl rfl (by decide) (by decide) (Nat.le_of_ble_eq_true rfl) (by decide) (by decide) dX3_settingAt_1 (fun x1 M2 hf => ?_)
  refine r_if_eq 16 hC dX3_settingAt_4 (by decide) (fun h => ?_) (fun h => ?_)
  · have hf := if_T hf h
    refine r_iconst (v := 0) hC dX3_settingAt_16 rfl ?_
    exact r_iret hf hC (by decide) (by decide) dX3_settingAt_17
  · have hf := if_F hf h
    refine r_aload_n hC dX3_settingAt_7 0 rfl ?_
    refine gf_X3_9 hC (z_S hZ hq0) rfl dX3_settingAt_8 ?_
    refine r_iload_n hC dX3_settingAt_11 1 rfl ?_
    have hin := if_K hf
    have hf := if_V hf
    refine r_iald hC (z_S1 hZ hq0) (inb_vp hin) dX3_settingAt_12 ?_
    refine r_goto 17 hC dX3_settingAt_13 (by decide) ?_
    exact r_iret hf hC (by decide) (by decide) dX3_settingAt_17
set_option maxRecDepth 20000 in
theorem c_X3_settingAt {l : Launch} (hl : l.stackTraces = false) {G : GG} {Z : ZZ} (hz : ZOk G Z) (hZ : ZM Z) (q0 : Nat) (v1 : Int32) (M : Mem) (hq0 : q0 < 18) (r : Int32) (M' : Mem) (hf : f_X3_settingAt q0 v1 M = some (r, M')) : CN (QcI G Z r M') l G Z yX3_settingAt cX3_settingAt 2 (some .int) 1 [.ref (Z.1 (iSt q0)), .int v1] M :=
  CN.of [(0, .ref (Z.1 (iSt q0))), (1, .int v1)] hl (by decide +kernel) (Nat.le_of_ble_eq_true rfl) rfl (fun _ hC => w_X3_settingAt hC hz hZ q0 v1 M hq0 hf)
set_option maxRecDepth 20000 in
theorem w_J6_bitCount_0f7a4 {X : XX} {G : GG} {Z : ZZ} (hC : Cx X G RJ6 cJ6_bitCount_0f7a4 (some .int) 0 0 0 1) (hz : ZOk G Z) (hZ : ZM Z) (v0 : Int32) (M : Mem)  {r : Int32} {M' : Mem} (hf : f_J6_bitCount_0f7a4 v0 M = some (r, M')) : V X G Z M 0 0 (QN X G (QcI G Z r M') 0 0) 0 [(0, .int v0)] [] := by
  unfold f_J6_bitCount_0f7a4 at hf
  refine r_iload_n hC dJ6_bitCount_0f7a4_0 0 rfl ?_
  refine r_iload_n hC dJ6_bitCount_0f7a4_1 0 rfl ?_
  refine r_iconst (v := 1) hC dJ6_bitCount_0f7a4_2 rfl ?_
  refine r_iushr hC dJ6_bitCount_0f7a4_3 ?_
  refine r_ldcw (v := 1431655765) hC dJ6_bitCount_0f7a4_4 kw_J6_265 ?_
  refine r_iand hC dJ6_bitCount_0f7a4_7 ?_
  refine r_isub hC dJ6_bitCount_0f7a4_8 ?_
  refine r_istore_n (L' := [(0, .int (v0 - (((Int32.toUInt32 v0 >>> (Int32.toUInt32 1 &&& Int32.toUInt32 31)).toInt32) &&& 1431655765)))]) hC dJ6_bitCount_0f7a4_9 (by decide) rfl ?_
  refine r_iload_n hC dJ6_bitCount_0f7a4_10 0 rfl ?_
  refine r_ldcw (v := 858993459) hC dJ6_bitCount_0f7a4_11 kw_J6_266 ?_
  refine r_iand hC dJ6_bitCount_0f7a4_14 ?_
  refine r_iload_n hC dJ6_bitCount_0f7a4_15 0 rfl ?_
  refine r_iconst (v := 2) hC dJ6_bitCount_0f7a4_16 rfl ?_
  refine r_iushr hC dJ6_bitCount_0f7a4_17 ?_
  refine r_ldcw (v := 858993459) hC dJ6_bitCount_0f7a4_18 kw_J6_266 ?_
  refine r_iand hC dJ6_bitCount_0f7a4_21 ?_
  refine r_iadd hC dJ6_bitCount_0f7a4_22 ?_
  refine r_istore_n (L' := [(0, .int (((v0 - (((Int32.toUInt32 v0 >>> (Int32.toUInt32 1 &&& Int32.toUInt32 31)).toInt32) &&& 1431655765)) &&& 858993459) + (((Int32.toUInt32 (v0 - (((Int32.toUInt32 v0 >>> (Int32.toUInt32 1 &&& Int32.toUInt32 31)).toInt32) &&& 1431655765)) >>> (Int32.toUInt32 2 &&& Int32.toUInt32 31)).toInt32) &&& 858993459)))]) hC dJ6_bitCount_0f7a4_23 (by decide) rfl ?_
  refine r_iload_n hC dJ6_bitCount_0f7a4_24 0 rfl ?_
  refine r_iload_n hC dJ6_bitCount_0f7a4_25 0 rfl ?_
  refine r_iconst (v := 4) hC dJ6_bitCount_0f7a4_26 rfl ?_
  refine r_iushr hC dJ6_bitCount_0f7a4_27 ?_
  refine r_iadd hC dJ6_bitCount_0f7a4_28 ?_
  refine r_ldcw (v := 252645135) hC dJ6_bitCount_0f7a4_29 kw_J6_267 ?_
  refine r_iand hC dJ6_bitCount_0f7a4_32 ?_
  refine r_istore_n (L' := [(0, .int (((((v0 - (((Int32.toUInt32 v0 >>> (Int32.toUInt32 1 &&& Int32.toUInt32 31)).toInt32) &&& 1431655765)) &&& 858993459) + (((Int32.toUInt32 (v0 - (((Int32.toUInt32 v0 >>> (Int32.toUInt32 1 &&& Int32.toUInt32 31)).toInt32) &&& 1431655765)) >>> (Int32.toUInt32 2 &&& Int32.toUInt32 31)).toInt32) &&& 858993459)) + ((Int32.toUInt32 (((v0 - (((Int32.toUInt32 v0 >>> (Int32.toUInt32 1 &&& Int32.toUInt32 31)).toInt32) &&& 1431655765)) &&& 858993459) + (((Int32.toUInt32 (v0 - (((Int32.toUInt32 v0 >>> (Int32.toUInt32 1 &&& Int32.toUInt32 31)).toInt32) &&& 1431655765)) >>> (Int32.toUInt32 2 &&& Int32.toUInt32 31)).toInt32) &&& 858993459)) >>> (Int32.toUInt32 4 &&& Int32.toUInt32 31)).toInt32)) &&& 252645135))]) hC dJ6_bitCount_0f7a4_33 (by decide) rfl ?_
  refine r_iload_n hC dJ6_bitCount_0f7a4_34 0 rfl ?_
  refine r_iload_n hC dJ6_bitCount_0f7a4_35 0 rfl ?_
  refine r_bipush (v := 8) hC dJ6_bitCount_0f7a4_36 rfl ?_
  refine r_iushr hC dJ6_bitCount_0f7a4_38 ?_
  refine r_iadd hC dJ6_bitCount_0f7a4_39 ?_
  refine r_istore_n (L' := [(0, .int ((((((v0 - (((Int32.toUInt32 v0 >>> (Int32.toUInt32 1 &&& Int32.toUInt32 31)).toInt32) &&& 1431655765)) &&& 858993459) + (((Int32.toUInt32 (v0 - (((Int32.toUInt32 v0 >>> (Int32.toUInt32 1 &&& Int32.toUInt32 31)).toInt32) &&& 1431655765)) >>> (Int32.toUInt32 2 &&& Int32.toUInt32 31)).toInt32) &&& 858993459)) + ((Int32.toUInt32 (((v0 - (((Int32.toUInt32 v0 >>> (Int32.toUInt32 1 &&& Int32.toUInt32 31)).toInt32) &&& 1431655765)) &&& 858993459) + (((Int32.toUInt32 (v0 - (((Int32.toUInt32 v0 >>> (Int32.toUInt32 1 &&& Int32.toUInt32 31)).toInt32) &&& 1431655765)) >>> (Int32.toUInt32 2 &&& Int32.toUInt32 31)).toInt32) &&& 858993459)) >>> (Int32.toUInt32 4 &&& Int32.toUInt32 31)).toInt32)) &&& 252645135) + ((Int32.toUInt32 (((((v0 - (((Int32.toUInt32 v0 >>> (Int32.toUInt32 1 &&& Int32.toUInt32 31)).toInt32) &&& 1431655765)) &&& 858993459) + (((Int32.toUInt32 (v0 - (((Int32.toUInt32 v0 >>> (Int32.toUInt32 1 &&& Int32.toUInt32 31)).toInt32) &&& 1431655765)) >>> (Int32.toUInt32 2 &&& Int32.toUInt32 31)).toInt32) &&& 858993459)) + ((Int32.toUInt32 (((v0 - (((Int32.toUInt32 v0 >>> (Int32.toUInt32 1 &&& Int32.toUInt32 31)).toInt32) &&& 1431655765)) &&& 858993459) + (((Int32.toUInt32 (v0 - (((Int32.toUInt32 v0 >>> (Int32.toUInt32 1 &&& Int32.toUInt32 31)).toInt32) &&& 1431655765)) >>> (Int32.toUInt32 2 &&& Int32.toUInt32 31)).toInt32) &&& 858993459)) >>> (Int32.toUInt32 4 &&& Int32.toUInt32 31)).toInt32)) &&& 252645135) >>> (Int32.toUInt32 8 &&& Int32.toUInt32 31)).toInt32)))]) hC dJ6_bitCount_0f7a4_40 (by decide) rfl ?_
  refine r_iload_n hC dJ6_bitCount_0f7a4_41 0 rfl ?_
  refine r_iload_n hC dJ6_bitCount_0f7a4_42 0 rfl ?_
  refine r_bipush (v := 16) hC dJ6_bitCount_0f7a4_43 rfl ?_
  refine r_iushr hC dJ6_bitCount_0f7a4_45 ?_
  refine r_iadd hC dJ6_bitCount_0f7a4_46 ?_
  refine r_istore_n (L' := [(0, .int (((((((v0 - (((Int32.toUInt32 v0 >>> (Int32.toUInt32 1 &&& Int32.toUInt32 31)).toInt32) &&& 1431655765)) &&& 858993459) + (((Int32.toUInt32 (v0 - (((Int32.toUInt32 v0 >>> (Int32.toUInt32 1 &&& Int32.toUInt32 31)).toInt32) &&& 1431655765)) >>> (Int32.toUInt32 2 &&& Int32.toUInt32 31)).toInt32) &&& 858993459)) + ((Int32.toUInt32 (((v0 - (((Int32.toUInt32 v0 >>> (Int32.toUInt32 1 &&& Int32.toUInt32 31)).toInt32) &&& 1431655765)) &&& 858993459) + (((Int32.toUInt32 (v0 - (((Int32.toUInt32 v0 >>> (Int32.toUInt32 1 &&& Int32.toUInt32 31)).toInt32) &&& 1431655765)) >>> (Int32.toUInt32 2 &&& Int32.toUInt32 31)).toInt32) &&& 858993459)) >>> (Int32.toUInt32 4 &&& Int32.toUInt32 31)).toInt32)) &&& 252645135) + ((Int32.toUInt32 (((((v0 - (((Int32.toUInt32 v0 >>> (Int32.toUInt32 1 &&& Int32.toUInt32 31)).toInt32) &&& 1431655765)) &&& 858993459) + (((Int32.toUInt32 (v0 - (((Int32.toUInt32 v0 >>> (Int32.toUInt32 1 &&& Int32.toUInt32 31)).toInt32) &&& 1431655765)) >>> (Int32.toUInt32 2 &&& Int32.toUInt32 31)).toInt32) &&& 858993459)) + ((Int32.toUInt32 (((v0 - (((Int32.toUInt32 v0 >>> (Int32.toUInt32 1 &&& Int32.toUInt32 31)).toInt32) &&& 1431655765)) &&& 858993459) + (((Int32.toUInt32 (v0 - (((Int32.toUInt32 v0 >>> (Int32.toUInt32 1 &&& Int32.toUInt32 31)).toInt32) &&& 1431655765)) >>> (Int32.toUInt32 2 &&& Int32.toUInt32 31)).toInt32) &&& 858993459)) >>> (Int32.toUInt32 4 &&& Int32.toUInt32 31)).toInt32)) &&& 252645135) >>> (Int32.toUInt32 8 &&& Int32.toUInt32 31)).toInt32)) + ((Int32.toUInt32 ((((((v0 - (((Int32.toUInt32 v0 >>> (Int32.toUInt32 1 &&& Int32.toUInt32 31)).toInt32) &&& 1431655765)) &&& 858993459) + (((Int32.toUInt32 (v0 - (((Int32.toUInt32 v0 >>> (Int32.toUInt32 1 &&& Int32.toUInt32 31)).toInt32) &&& 1431655765)) >>> (Int32.toUInt32 2 &&& Int32.toUInt32 31)).toInt32) &&& 858993459)) + ((Int32.toUInt32 (((v0 - (((Int32.toUInt32 v0 >>> (Int32.toUInt32 1 &&& Int32.toUInt32 31)).toInt32) &&& 1431655765)) &&& 858993459) + (((Int32.toUInt32 (v0 - (((Int32.toUInt32 v0 >>> (Int32.toUInt32 1 &&& Int32.toUInt32 31)).toInt32) &&& 1431655765)) >>> (Int32.toUInt32 2 &&& Int32.toUInt32 31)).toInt32) &&& 858993459)) >>> (Int32.toUInt32 4 &&& Int32.toUInt32 31)).toInt32)) &&& 252645135) + ((Int32.toUInt32 (((((v0 - (((Int32.toUInt32 v0 >>> (Int32.toUInt32 1 &&& Int32.toUInt32 31)).toInt32) &&& 1431655765)) &&& 858993459) + (((Int32.toUInt32 (v0 - (((Int32.toUInt32 v0 >>> (Int32.toUInt32 1 &&& Int32.toUInt32 31)).toInt32) &&& 1431655765)) >>> (Int32.toUInt32 2 &&& Int32.toUInt32 31)).toInt32) &&& 858993459)) + ((Int32.toUInt32 (((v0 - (((Int32.toUInt32 v0 >>> (Int32.toUInt32 1 &&& Int32.toUInt32 31)).toInt32) &&& 1431655765)) &&& 858993459) + (((Int32.toUInt32 (v0 - (((Int32.toUInt32 v0 >>> (Int32.toUInt32 1 &&& Int32.toUInt32 31)).toInt32) &&& 1431655765)) >>> (Int32.toUInt32 2 &&& Int32.toUInt32 31)).toInt32) &&& 858993459)) >>> (Int32.toUInt32 4 &&& Int32.toUInt32 31)).toInt32)) &&& 252645135) >>> (Int32.toUInt32 8 &&& Int32.toUInt32 31)).toInt32)) >>> (Int32.toUInt32 16 &&& Int32.toUInt32 31)).toInt32)))]) hC dJ6_bitCount_0f7a4_47 (by decide) rfl ?_
  refine r_iload_n hC dJ6_bitCount_0f7a4_48 0 rfl ?_
  refine r_bipush (v := 63) hC dJ6_bitCount_0f7a4_49 rfl ?_
  refine r_iand hC dJ6_bitCount_0f7a4_51 ?_
  exact r_iret hf hC (by decide) (by decide) dJ6_bitCount_0f7a4_52
set_option maxRecDepth 20000 in
theorem c_J6_bitCount_0f7a4 {l : Launch} (hl : l.stackTraces = false) {G : GG} {Z : ZZ} (hz : ZOk G Z) (hZ : ZM Z) (v0 : Int32) (M : Mem)  (r : Int32) (M' : Mem) (hf : f_J6_bitCount_0f7a4 v0 M = some (r, M')) : CN (QcI G Z r M') l G Z yJ6_bitCount_0f7a4 cJ6_bitCount_0f7a4 1 (some .int) 0 [.int v0] M :=
  CN.of [(0, .int v0)] hl (by decide +kernel) (Nat.le_of_ble_eq_true rfl) rfl (fun _ hC => w_J6_bitCount_0f7a4 hC hz hZ v0 M  hf)
set_option maxRecDepth 20000 in
theorem w_X1_isEmpty {X : XX} {G : GG} {Z : ZZ} (hC : Cx X G RX1 cX1_isEmpty (some .boolean) 0 0 0 1) (hz : ZOk G Z) (hZ : ZM Z)  (M : Mem)  {r : Int32} {M' : Mem} (hf : f_X1_isEmpty  M = some (r, M')) : V X G Z M 0 0 (QN X G (QcI G Z r M') 0 0) 0 [(0, .ref (Z.1 3))] [] := by
  unfold f_X1_isEmpty at hf
  refine r_aload_n hC dX1_isEmpty_0 0 rfl ?_
  refine gf_X1_18 hC (z_1 hZ 3 (by decide) rfl) rfl dX1_isEmpty_1 ?_
  refine r_if_ne 11 hC dX1_isEmpty_4 (by decide) (fun h => ?_) (fun h => ?_)
  · have hf := if_F hf h
    refine r_iconst (v := 0) hC dX1_isEmpty_11 rfl ?_
    exact r_zret hf hC rfl rfl (by decide) (by decide) dX1_isEmpty_12
  · have hf := if_T hf h
    refine r_iconst (v := 1) hC dX1_isEmpty_7 rfl ?_
    refine r_goto 12 hC dX1_isEmpty_8 (by decide) ?_
    exact r_zret hf hC rfl rfl (by decide) (by decide) dX1_isEmpty_12
set_option maxRecDepth 20000 in
theorem c_X1_isEmpty {l : Launch} (hl : l.stackTraces = false) {G : GG} {Z : ZZ} (hz : ZOk G Z) (hZ : ZM Z)  (M : Mem)  (r : Int32) (M' : Mem) (hf : f_X1_isEmpty  M = some (r, M')) : CN (QcI G Z r M') l G Z yX1_isEmpty cX1_isEmpty 1 (some .boolean) 0 [.ref (Z.1 3)] M :=
  CN.of [(0, .ref (Z.1 3))] hl (by decide +kernel) (Nat.le_of_ble_eq_true rfl) rfl (fun _ hC => w_X1_isEmpty hC hz hZ  M  hf)
set_option maxRecDepth 20000 in
theorem w_X1_forget {X : XX} {G : GG} {Z : ZZ} (hC : Cx X G RX1 cX1_forget none 0 0 0 1) (hz : ZOk G Z) (hZ : ZM Z)  (M : Mem)  {r : Unit} {M' : Mem} (hf : f_X1_forget  M = some (r, M')) : V X G Z M 0 0 (QN X G (QcV G Z r M') 0 0) 0 [(0, .ref (Z.1 3))] [] := by
  unfold f_X1_forget at hf
  refine r_aload_n hC dX1_forget_0 0 rfl ?_
  refine r_iconst (v := 0) hC dX1_forget_1 rfl ?_
  refine pf_X1_18 hC hz (z_1 hZ 3 (by decide) rfl) rfl dX1_forget_2 ?_
  exact r_vret hf hC (by decide) (by decide) dX1_forget_5
set_option maxRecDepth 20000 in
theorem c_X1_forget {l : Launch} (hl : l.stackTraces = false) {G : GG} {Z : ZZ} (hz : ZOk G Z) (hZ : ZM Z)  (M : Mem)  (r : Unit) (M' : Mem) (hf : f_X1_forget  M = some (r, M')) : CN (QcV G Z r M') l G Z yX1_forget cX1_forget 1 none 0 [.ref (Z.1 3)] M :=
  CN.of [(0, .ref (Z.1 3))] hl (by decide +kernel) (Nat.le_of_ble_eq_true rfl) rfl (fun _ hC => w_X1_forget hC hz hZ  M  hf)
set_option maxRecDepth 20000 in
theorem w_X3_takeFrom_b44 {X : XX} {G : GG} {Z : ZZ} {r : Unit} {M' : Mem} (hC : Cx X G RX3 cX3_takeFrom none 0 0 0 3) (hz : ZOk G Z) (hZ : ZM Z) (q0 : Nat) (q1 : Nat) (hq0 : q0 < 18) (hq1 : q1 < 18) (k44 : Int32 → Mem → Option (Unit × Mem)) (hk44 : ∀ (u2 : Int32) (M : Mem), k44 u2 M = some (r, M') → V X G Z M 0 0 (QN X G (QcV G Z r M') 0 0) 44 [(0, .ref (Z.1 (iSt q0))), (1, .ref (Z.1 (iSt q1))), (2, .int u2)] []) (v2 : Int32) (M : Mem) (hf : f_X3_takeFrom_b44 q0 q1 k44 v2 M = some (r, M')) : V X G Z M 0 0 (QN X G (QcV G Z r M') 0 0) 44 [(0, .ref (Z.1 (iSt q0))), (1, .ref (Z.1 (iSt q1))), (2, .int v2)] [] := by
  unfold f_X3_takeFrom_b44 at hf
  refine r_iload_n hC dX3_takeFrom_44 2 rfl ?_
  refine r_aload_n hC dX3_takeFrom_45 0 rfl ?_
  refine gf_X3_15 hC (z_S hZ hq0) rfl dX3_takeFrom_46 ?_
  refine r_alen (v := 64) hC (z_S2 hZ hq0) rfl dX3_takeFrom_49 ?_
  refine r_icmp_ge 71 hC dX3_takeFrom_50 (by decide) (fun h => ?_) (fun h => ?_)
  · have hf := if_T hf h
    exact r_vret hf hC (by decide) (by decide) dX3_takeFrom_71
  · have hf := if_F hf h
    refine r_aload_n hC dX3_takeFrom_53 0 rfl ?_
    refine gf_X3_15 hC (z_S hZ hq0) rfl dX3_takeFrom_54 ?_
    refine r_iload_n hC dX3_takeFrom_57 2 rfl ?_
    refine r_aload_n hC dX3_takeFrom_58 1 rfl ?_
    refine gf_X3_15 hC (z_S hZ hq1) rfl dX3_takeFrom_59 ?_
    refine r_iload_n hC dX3_takeFrom_62 2 rfl ?_
    have hin := if_K hf
    have hf := if_V hf
    refine r_iald hC (z_S2 hZ hq1) (inb_vp hin) dX3_takeFrom_63 ?_
    have hin := if_K hf
    have hf := if_V hf
    refine r_iast hC hz (z_S2 hZ hq0) (inb_vp hin) dX3_takeFrom_64 ?_
    refine r_iinc (v := v2 + 1) (L' := [(2, .int (v2 + 1)), (0, .ref (Z.1 (iSt q0))), (1, .ref (Z.1 (iSt q1)))]) hC dX3_takeFrom_65 2 rfl rfl (by decide) rfl ?_
    refine r_goto 44 hC dX3_takeFrom_68 (by decide) ?_
    refine r_L [1, 2, 0] rfl ?_
    exact hk44 _ _ hf
set_option maxRecDepth 20000 in
theorem w_X3_takeFrom_b42 {X : XX} {G : GG} {Z : ZZ} {r : Unit} {M' : Mem} (hC : Cx X G RX3 cX3_takeFrom none 0 0 0 3) (hz : ZOk G Z) (hZ : ZM Z) (q0 : Nat) (q1 : Nat) (hq0 : q0 < 18) (hq1 : q1 < 18) (M : Mem) (hf : f_X3_takeFrom_b42 q0 q1 M = some (r, M')) : V X G Z M 0 0 (QN X G (QcV G Z r M') 0 0) 42 [(0, .ref (Z.1 (iSt q0))), (1, .ref (Z.1 (iSt q1)))] [] := by
  unfold f_X3_takeFrom_b42 at hf
  refine r_iconst (v := 0) hC dX3_takeFrom_42 rfl ?_
  refine r_istore_n (L' := [(2, .int 0), (0, .ref (Z.1 (iSt q0))), (1, .ref (Z.1 (iSt q1)))]) hC dX3_takeFrom_43 (by decide) rfl ?_
  refine r_L [1, 2, 0] rfl ?_
  exact lq1_ind (P := fun (u2 : Int32) (M : Mem) => V X G Z M 0 0 (QN X G (QcV G Z r M') 0 0) 44 [(0, .ref (Z.1 (iSt q0))), (1, .ref (Z.1 (iSt q1))), (2, .int u2)] []) (fun kk hkk u2 M hf => w_X3_takeFrom_b44 hC hz hZ q0 q1 hq0 hq1 kk hkk u2 M hf) _ _ _ hf
set_option maxRecDepth 20000 in
theorem w_X3_takeFrom_b18 {X : XX} {G : GG} {Z : ZZ} {r : Unit} {M' : Mem} (hC : Cx X G RX3 cX3_takeFrom none 0 0 0 3) (hz : ZOk G Z) (hZ : ZM Z) (q0 : Nat) (q1 : Nat) (hq0 : q0 < 18) (hq1 : q1 < 18) (k18 : Int32 → Mem → Option (Unit × Mem)) (hk18 : ∀ (u2 : Int32) (M : Mem), k18 u2 M = some (r, M') → V X G Z M 0 0 (QN X G (QcV G Z r M') 0 0) 18 [(0, .ref (Z.1 (iSt q0))), (1, .ref (Z.1 (iSt q1))), (2, .int u2)] []) (v2 : Int32) (M : Mem) (hf : f_X3_takeFrom_b18 q0 q1 k18 v2 M = some (r, M')) : V X G Z M 0 0 (QN X G (QcV G Z r M') 0 0) 18 [(0, .ref (Z.1 (iSt q0))), (1, .ref (Z.1 (iSt q1))), (2, .int v2)] [] := by
  unfold f_X3_takeFrom_b18 at hf
  refine r_iload_n hC dX3_takeFrom_18 2 rfl ?_
  refine r_bipush (v := 6) hC dX3_takeFrom_19 rfl ?_
  refine r_icmp_ge 42 hC dX3_takeFrom_21 (by decide) (fun h => ?_) (fun h => ?_)
  · have hf := if_T hf h
    refine r_L [0, 1] rfl ?_
    exact w_X3_takeFrom_b42 hC hz hZ q0 q1 hq0 hq1 _ hf
  · have hf := if_F hf h
    refine r_aload_n hC dX3_takeFrom_24 0 rfl ?_
    refine gf_X3_9 hC (z_S hZ hq0) rfl dX3_takeFrom_25 ?_
    refine r_iload_n hC dX3_takeFrom_28 2 rfl ?_
    refine r_aload_n hC dX3_takeFrom_29 1 rfl ?_
    refine gf_X3_9 hC (z_S hZ hq1) rfl dX3_takeFrom_30 ?_
    refine r_iload_n hC dX3_takeFrom_33 2 rfl ?_
    have hin := if_K hf
    have hf := if_V hf
    refine r_iald hC (z_S1 hZ hq1) (inb_vp hin) dX3_takeFrom_34 ?_
    have hin := if_K hf
    have hf := if_V hf
    refine r_iast hC hz (z_S1 hZ hq0) (inb_vp hin) dX3_takeFrom_35 ?_
    refine r_iinc (v := v2 + 1) (L' := [(2, .int (v2 + 1)), (0, .ref (Z.1 (iSt q0))), (1, .ref (Z.1 (iSt q1)))]) hC dX3_takeFrom_36 2 rfl rfl (by decide) rfl ?_
    refine r_goto 18 hC dX3_takeFrom_39 (by decide) ?_
    refine r_L [1, 2, 0] rfl ?_
    exact hk18 _ _ hf
set_option maxRecDepth 20000 in
theorem w_X3_takeFrom {X : XX} {G : GG} {Z : ZZ} (hC : Cx X G RX3 cX3_takeFrom none 0 0 0 3) (hz : ZOk G Z) (hZ : ZM Z) (q0 : Nat) (q1 : Nat) (M : Mem) (hq0 : q0 < 18) (hq1 : q1 < 18) {r : Unit} {M' : Mem} (hf : f_X3_takeFrom q0 q1 M = some (r, M')) : V X G Z M 0 0 (QN X G (QcV G Z r M') 0 0) 0 [(0, .ref (Z.1 (iSt q0))), (1, .ref (Z.1 (iSt q1)))] [] := by
  unfold f_X3_takeFrom at hf
  refine r_aload_n hC dX3_takeFrom_0 0 rfl ?_
  refine r_aload_n hC dX3_takeFrom_1 1 rfl ?_
  refine gf_X3_25 hC (z_S hZ hq1) rfl dX3_takeFrom_2 ?_
  refine pf_X3_25 hC hz (z_S hZ hq0) rfl dX3_takeFrom_5 ?_
  refine r_aload_n hC dX3_takeFrom_8 0 rfl ?_
  refine r_aload_n hC dX3_takeFrom_9 1 rfl ?_
  refine gf_X3_29 hC (z_S hZ hq1) rfl dX3_takeFrom_10 ?_
  refine pf_X3_29 hC hz (z_S hZ hq0) rfl dX3_takeFrom_13 ?_
  refine r_iconst (v := 0) hC dX3_takeFrom_16 rfl ?_
  refine r_istore_n (L' := [(2, .int 0), (0, .ref (Z.1 (iSt q0))), (1, .ref (Z.1 (iSt q1)))]) hC dX3_takeFrom_17 (by decide) rfl ?_
  refine r_L [1, 2, 0] rfl ?_
  exact lq1_ind (P := fun (u2 : Int32) (M : Mem) => V X G Z M 0 0 (QN X G (QcV G Z r M') 0 0) 18 [(0, .ref (Z.1 (iSt q0))), (1, .ref (Z.1 (iSt q1))), (2, .int u2)] []) (fun kk hkk u2 M hf => w_X3_takeFrom_b18 hC hz hZ q0 q1 hq0 hq1 kk hkk u2 M hf) _ _ _ hf
set_option maxRecDepth 20000 in
theorem c_X3_takeFrom {l : Launch} (hl : l.stackTraces = false) {G : GG} {Z : ZZ} (hz : ZOk G Z) (hZ : ZM Z) (q0 : Nat) (q1 : Nat) (M : Mem) (hq0 : q0 < 18) (hq1 : q1 < 18) (r : Unit) (M' : Mem) (hf : f_X3_takeFrom q0 q1 M = some (r, M')) : CN (QcV G Z r M') l G Z yX3_takeFrom cX3_takeFrom 3 none 0 [.ref (Z.1 (iSt q0)), .ref (Z.1 (iSt q1))] M :=
  CN.of [(0, .ref (Z.1 (iSt q0))), (1, .ref (Z.1 (iSt q1)))] hl (by decide +kernel) (Nat.le_of_ble_eq_true rfl) rfl (fun _ hC => w_X3_takeFrom hC hz hZ q0 q1 M hq0 hq1 hf)
set_option maxRecDepth 20000 in
theorem w_X1_remember {X : XX} {G : GG} {Z : ZZ} (hC : Cx X G RX1 cX1_remember none 1 0 0 2) (hz : ZOk G Z) (hZ : ZM Z) (q1 : Nat) (M : Mem) (hq1 : q1 < 18) {r : Unit} {M' : Mem} (hf : f_X1_remember q1 M = some (r, M')) : V X G Z M 0 0 (QN X G (QcV G Z r M') 0 0) 0 [(0, .ref (Z.1 3)), (1, .ref (Z.1 (iSt q1)))] [] := by
  unfold f_X1_remember at hf
  refine r_aload_n hC dX1_remember_0 0 rfl ?_
  refine gf_X1_11 hC (z_1 hZ 3 (by decide) rfl) rfl dX1_remember_1 ?_
  refine r_aload_n hC dX1_remember_4 0 rfl ?_
  refine gf_X1_22 hC (z_1 hZ 3 (by decide) rfl) rfl dX1_remember_5 ?_
  have hin1 := if_K hf
  have hf := if_V hf
  refine r_aald hC (z_1 hZ 4 (by decide) rfl) rfl (inb_vp hin1) rfl dX1_remember_8 ?_
  refine r_aload_n hC dX1_remember_9 1 rfl ?_
  refine r_callVV [] (fun r M1 h => c_X3_takeFrom (cx_st hC) hz hZ (4 + Int32.toNatClampNeg (M 3 1)) q1 _ (st_ring hin1) hq1 r M1 h) hf cs_X1_25 hC (z_S hZ (st_ring hin1)) (q0 := (RX3, TX3, 4)) rfl rfl [.ref (Z.1 (iSt q1))] rfl rfl rfl (by decide) (by decide) (Nat.le_of_ble_eq_true rfl) (by decide) (by decide) dX1_remember_10 (fun x2 M3 hf => ?_)
  refine r_aload_n hC dX1_remember_13 0 rfl ?_
  refine r_aload_n hC dX1_remember_14 0 rfl ?_
  refine gf_X1_22 hC (z_1 hZ 3 (by decide) rfl) rfl dX1_remember_15 ?_
  refine r_iconst (v := 1) hC dX1_remember_18 rfl ?_
  refine r_iadd hC dX1_remember_19 ?_
  refine r_bipush (v := 14) hC dX1_remember_20 rfl ?_
  refine r_irem hC dX1_remember_22 (by decide) ?_
  refine pf_X1_22 hC hz (z_1 hZ 3 (by decide) rfl) rfl dX1_remember_23 ?_
  refine r_aload_n hC dX1_remember_26 0 rfl ?_
  refine gf_X1_18 hC (z_1 hZ 3 (by decide) rfl) rfl dX1_remember_27 ?_
  refine r_bipush (v := 14) hC dX1_remember_30 rfl ?_
  refine r_icmp_ge 45 hC dX1_remember_32 (by decide) (fun h => ?_) (fun h => ?_)
  · have hf := if_T hf h
    exact r_vret hf hC (by decide) (by decide) dX1_remember_45
  · have hf := if_F hf h
    refine r_aload_n hC dX1_remember_35 0 rfl ?_
    refine r_dup hC dX1_remember_36 rfl ?_
    refine gf_X1_18 hC (z_1 hZ 3 (by decide) rfl) rfl dX1_remember_37 ?_
    refine r_iconst (v := 1) hC dX1_remember_40 rfl ?_
    refine r_iadd hC dX1_remember_41 ?_
    refine pf_X1_18 hC hz (z_1 hZ 3 (by decide) rfl) rfl dX1_remember_42 ?_
    exact r_vret hf hC (by decide) (by decide) dX1_remember_45
set_option maxRecDepth 20000 in
theorem c_X1_remember {l : Launch} (hl : l.stackTraces = false) {G : GG} {Z : ZZ} (hz : ZOk G Z) (hZ : ZM Z) (q1 : Nat) (M : Mem) (hq1 : q1 < 18) (r : Unit) (M' : Mem) (hf : f_X1_remember q1 M = some (r, M')) : CN (QcV G Z r M') l G Z yX1_remember cX1_remember 2 none 1 [.ref (Z.1 3), .ref (Z.1 (iSt q1))] M :=
  CN.of [(0, .ref (Z.1 3)), (1, .ref (Z.1 (iSt q1)))] hl (by decide +kernel) (Nat.le_of_ble_eq_true rfl) rfl (fun _ hC => w_X1_remember hC hz hZ q1 M hq1 hf)
set_option maxRecDepth 20000 in
theorem w_X1_takeBack {X : XX} {G : GG} {Z : ZZ} (hC : Cx X G RX1 cX1_takeBack (some .int) 1 0 0 2) (hz : ZOk G Z) (hZ : ZM Z) (q1 : Nat) (M : Mem) (hq1 : q1 < 18) {r : Int32} {M' : Mem} (hf : f_X1_takeBack q1 M = some (r, M')) : V X G Z M 0 0 (QN X G (QcI G Z r M') 0 0) 0 [(0, .ref (Z.1 3)), (1, .ref (Z.1 (iSt q1)))] [] := by
  unfold f_X1_takeBack at hf
  refine r_aload_n hC dX1_takeBack_0 0 rfl ?_
  refine gf_X1_18 hC (z_1 hZ 3 (by decide) rfl) rfl dX1_takeBack_1 ?_
  refine r_if_le 46 hC dX1_takeBack_4 (by decide) (fun h => ?_) (fun h => ?_)
  · have hf := if_T hf h
    refine r_aload_n hC dX1_takeBack_46 0 rfl ?_
    refine gf_X1_18 hC (z_1 hZ 3 (by decide) rfl) rfl dX1_takeBack_47 ?_
    exact r_iret hf hC (by decide) (by decide) dX1_takeBack_50
  · have hf := if_F hf h
    refine r_aload_n hC dX1_takeBack_7 0 rfl ?_
    refine r_aload_n hC dX1_takeBack_8 0 rfl ?_
    refine gf_X1_22 hC (z_1 hZ 3 (by decide) rfl) rfl dX1_takeBack_9 ?_
    refine r_bipush (v := 14) hC dX1_takeBack_12 rfl ?_
    refine r_iadd hC dX1_takeBack_14 ?_
    refine r_iconst (v := 1) hC dX1_takeBack_15 rfl ?_
    refine r_isub hC dX1_takeBack_16 ?_
    refine r_bipush (v := 14) hC dX1_takeBack_17 rfl ?_
    refine r_irem hC dX1_takeBack_19 (by decide) ?_
    refine pf_X1_22 hC hz (z_1 hZ 3 (by decide) rfl) rfl dX1_takeBack_20 ?_
    refine r_aload_n hC dX1_takeBack_23 1 rfl ?_
    refine r_aload_n hC dX1_takeBack_24 0 rfl ?_
    refine gf_X1_11 hC (z_1 hZ 3 (by decide) rfl) rfl dX1_takeBack_25 ?_
    refine r_aload_n hC dX1_takeBack_28 0 rfl ?_
    refine gf_X1_22 hC (z_1 hZ 3 (by decide) rfl) rfl dX1_takeBack_29 ?_
    have hin1 := if_K hf
    have hf := if_V hf
    refine r_aald hC (z_1 hZ 4 (by decide) rfl) rfl (inb_vp hin1) rfl dX1_takeBack_32 ?_
    refine r_callVV [] (fun r M1 h => c_X3_takeFrom (cx_st hC) hz hZ q1 (4 + Int32.toNatClampNeg ((mw M 3 1 ((((M 3 1) + 14) - 1) - (((M 3 1) + 14) - 1) / 14 * 14)) 3 1)) _ hq1 (st_ring hin1) r M1 h) hf cs_X1_25 hC (z_S hZ hq1) (q0 := (RX3, TX3, 4)) rfl rfl [.ref (Z.1 (iSt (4 + Int32.toNatClampNeg ((mw M 3 1 ((((M 3 1) + 14) - 1) - (((M 3 1) + 14) - 1) / 14 * 14)) 3 1))))] rfl rfl rfl (by decide) (by decide) (Nat.le_of_ble_eq_true rfl) (by decide) (by decide) dX1_takeBack_33 (fun x2 M3 hf => ?_)
    refine r_aload_n hC dX1_takeBack_36 0 rfl ?_
    refine r_dup hC dX1_takeBack_37 rfl ?_
    refine gf_X1_18 hC (z_1 hZ 3 (by decide) rfl) rfl dX1_takeBack_38 ?_
    refine r_iconst (v := 1) hC dX1_takeBack_41 rfl ?_
    refine r_isub hC dX1_takeBack_42 ?_
    refine pf_X1_18 hC hz (z_1 hZ 3 (by decide) rfl) rfl dX1_takeBack_43 ?_
    refine r_aload_n hC dX1_takeBack_46 0 rfl ?_
    refine gf_X1_18 hC (z_1 hZ 3 (by decide) rfl) rfl dX1_takeBack_47 ?_
    exact r_iret hf hC (by decide) (by decide) dX1_takeBack_50
set_option maxRecDepth 20000 in
theorem c_X1_takeBack {l : Launch} (hl : l.stackTraces = false) {G : GG} {Z : ZZ} (hz : ZOk G Z) (hZ : ZM Z) (q1 : Nat) (M : Mem) (hq1 : q1 < 18) (r : Int32) (M' : Mem) (hf : f_X1_takeBack q1 M = some (r, M')) : CN (QcI G Z r M') l G Z yX1_takeBack cX1_takeBack 2 (some .int) 1 [.ref (Z.1 3), .ref (Z.1 (iSt q1))] M :=
  CN.of [(0, .ref (Z.1 3)), (1, .ref (Z.1 (iSt q1)))] hl (by decide +kernel) (Nat.le_of_ble_eq_true rfl) rfl (fun _ hC => w_X1_takeBack hC hz hZ q1 M hq1 hf)
set_option maxRecDepth 20000 in
theorem w_X3_becomeRests_b12 {X : XX} {G : GG} {Z : ZZ} {r : Unit} {M' : Mem} (hC : Cx X G RX3 cX3_becomeRests none 0 0 0 4) (hz : ZOk G Z) (hZ : ZM Z) (q0 : Nat) (hq0 : q0 < 18) (k12 : Int32 → Mem → Option (Unit × Mem)) (hk12 : ∀ (u3 : Int32) (M : Mem), k12 u3 M = some (r, M') → V X G Z M 0 0 (QN X G (QcV G Z r M') 0 0) 12 [(0, .ref (Z.1 (iSt q0))), (3, .int u3)] []) (v3 : Int32) (M : Mem) (hf : f_X3_becomeRests_b12 q0 k12 v3 M = some (r, M')) : V X G Z M 0 0 (QN X G (QcV G Z r M') 0 0) 12 [(0, .ref (Z.1 (iSt q0))), (3, .int v3)] [] := by
  unfold f_X3_becomeRests_b12 at hf
  refine r_iload_n hC dX3_becomeRests_12 1 rfl ?_
  refine r_aload_n hC dX3_becomeRests_13 0 rfl ?_
  refine gf_X3_15 hC (z_S hZ hq0) rfl dX3_becomeRests_14 ?_
  refine r_alen (v := 64) hC (z_S2 hZ hq0) rfl dX3_becomeRests_17 ?_
  refine r_icmp_ge 35 hC dX3_becomeRests_18 (by decide) (fun h => ?_) (fun h => ?_)
  · have hf := if_T hf h
    exact r_vret hf hC (by decide) (by decide) dX3_becomeRests_35
  · have hf := if_F hf h
    refine r_aload_n hC dX3_becomeRests_21 0 rfl ?_
    refine gf_X3_15 hC (z_S hZ hq0) rfl dX3_becomeRests_22 ?_
    refine r_iload_n hC dX3_becomeRests_25 1 rfl ?_
    refine r_bipush (v := (-9)) hC dX3_becomeRests_26 rfl ?_
    have hin := if_K hf
    have hf := if_V hf
    refine r_iast hC hz (z_S2 hZ hq0) (inb_vp hin) dX3_becomeRests_28 ?_
    refine r_iinc (v := v3 + 1) (L' := [(3, .int (v3 + 1)), (0, .ref (Z.1 (iSt q0)))]) hC dX3_becomeRests_29 1 rfl rfl (by decide) rfl ?_
    refine r_goto 12 hC dX3_becomeRests_32 (by decide) ?_
    refine r_L [1, 0] rfl ?_
    exact hk12 _ _ hf
set_option maxRecDepth 20000 in
theorem w_X3_becomeRests {X : XX} {G : GG} {Z : ZZ} (hC : Cx X G RX3 cX3_becomeRests none 0 0 0 4) (hz : ZOk G Z) (hZ : ZM Z) (q0 : Nat) (v1 : Int32) (v2 : Int32) (M : Mem) (hq0 : q0 < 18) {r : Unit} {M' : Mem} (hf : f_X3_becomeRests q0 v1 v2 M = some (r, M')) : V X G Z M 0 0 (QN X G (QcV G Z r M') 0 0) 0 [(0, .ref (Z.1 (iSt q0))), (1, .int v1), (2, .int v2)] [] := by
  unfold f_X3_becomeRests at hf
  refine r_aload_n hC dX3_becomeRests_0 0 rfl ?_
  refine r_iload_n hC dX3_becomeRests_1 1 rfl ?_
  refine pf_X3_25 hC hz (z_S hZ hq0) rfl dX3_becomeRests_2 ?_
  refine r_aload_n hC dX3_becomeRests_5 0 rfl ?_
  refine r_iload_n hC dX3_becomeRests_6 2 rfl ?_
  refine pf_X3_29 hC hz (z_S hZ hq0) rfl dX3_becomeRests_7 ?_
  refine r_iconst (v := 0) hC dX3_becomeRests_10 rfl ?_
  refine r_istore_n (L' := [(3, .int 0), (0, .ref (Z.1 (iSt q0))), (1, .int v1), (2, .int v2)]) hC dX3_becomeRests_11 (by decide) rfl ?_
  refine r_L [1, 0] rfl ?_
  exact lq1_ind (P := fun (u3 : Int32) (M : Mem) => V X G Z M 0 0 (QN X G (QcV G Z r M') 0 0) 12 [(0, .ref (Z.1 (iSt q0))), (3, .int u3)] []) (fun kk hkk u3 M hf => w_X3_becomeRests_b12 hC hz hZ q0 hq0 kk hkk u3 M hf) _ _ _ hf
set_option maxRecDepth 20000 in
theorem c_X3_becomeRests {l : Launch} (hl : l.stackTraces = false) {G : GG} {Z : ZZ} (hz : ZOk G Z) (hZ : ZM Z) (q0 : Nat) (v1 : Int32) (v2 : Int32) (M : Mem) (hq0 : q0 < 18) (r : Unit) (M' : Mem) (hf : f_X3_becomeRests q0 v1 v2 M = some (r, M')) : CN (QcV G Z r M') l G Z yX3_becomeRests cX3_becomeRests 4 none 0 [.ref (Z.1 (iSt q0)), .int v1, .int v2] M :=
  CN.of [(0, .ref (Z.1 (iSt q0))), (1, .int v1), (2, .int v2)] hl (by decide +kernel) (Nat.le_of_ble_eq_true rfl) rfl (fun _ hC => w_X3_becomeRests hC hz hZ q0 v1 v2 M hq0 hf)
set_option maxRecDepth 20000 in
theorem w_X3_resetSettings_b2 {X : XX} {G : GG} {Z : ZZ} {r : Unit} {M' : Mem} (hC : Cx X G RX3 cX3_resetSettings none 0 0 0 2) (hz : ZOk G Z) (hZ : ZM Z) (q0 : Nat) (hq0 : q0 < 18) (k2 : Int32 → Mem → Option (Unit × Mem)) (hk2 : ∀ (u1 : Int32) (M : Mem), k2 u1 M = some (r, M') → V X G Z M 0 0 (QN X G (QcV G Z r M') 0 0) 2 [(0, .ref (Z.1 (iSt q0))), (1, .int u1)] []) (v1 : Int32) (M : Mem) (hf : f_X3_resetSettings_b2 q0 k2 v1 M = some (r, M')) : V X G Z M 0 0 (QN X G (QcV G Z r M') 0 0) 2 [(0, .ref (Z.1 (iSt q0))), (1, .int v1)] [] := by
  unfold f_X3_resetSettings_b2 at hf
  refine r_iload_n hC dX3_resetSettings_2 1 rfl ?_
  refine r_bipush (v := 6) hC dX3_resetSettings_3 rfl ?_
  refine r_icmp_ge 25 hC dX3_resetSettings_5 (by decide) (fun h => ?_) (fun h => ?_)
  · have hf := if_T hf h
    exact r_vret hf hC (by decide) (by decide) dX3_resetSettings_25
  · have hf := if_F hf h
    refine r_aload_n hC dX3_resetSettings_8 0 rfl ?_
    refine gf_X3_9 hC (z_S hZ hq0) rfl dX3_resetSettings_9 ?_
    refine r_iload_n hC dX3_resetSettings_12 1 rfl ?_
    refine r_gets (j := 0) (nm := "SETTING_AT_FIRST") (f := fun _ => .null) (fun h => h.1.1) hC kw_X3_32 dX3_resetSettings_13 ?_
    refine r_iload_n hC dX3_resetSettings_16 1 rfl ?_
    have hin := if_K hf
    have hf := if_V hf
    refine r_tald (f := fun k => sa_first.getD k 0) (fun h => h.1.2) hC (inb_vp hin) rfl dX3_resetSettings_17 ?_
    have hin := if_K hf
    have hf := if_V hf
    refine r_iast hC hz (z_S1 hZ hq0) (inb_vp hin) dX3_resetSettings_18 ?_
    refine r_iinc (v := v1 + 1) (L' := [(1, .int (v1 + 1)), (0, .ref (Z.1 (iSt q0)))]) hC dX3_resetSettings_19 1 rfl rfl (by decide) rfl ?_
    refine r_goto 2 hC dX3_resetSettings_22 (by decide) ?_
    refine r_L [1, 0] rfl ?_
    exact hk2 _ _ hf
set_option maxRecDepth 20000 in
theorem w_X3_resetSettings {X : XX} {G : GG} {Z : ZZ} (hC : Cx X G RX3 cX3_resetSettings none 0 0 0 2) (hz : ZOk G Z) (hZ : ZM Z) (q0 : Nat) (M : Mem) (hq0 : q0 < 18) {r : Unit} {M' : Mem} (hf : f_X3_resetSettings q0 M = some (r, M')) : V X G Z M 0 0 (QN X G (QcV G Z r M') 0 0) 0 [(0, .ref (Z.1 (iSt q0)))] [] := by
  unfold f_X3_resetSettings at hf
  refine r_iconst (v := 0) hC dX3_resetSettings_0 rfl ?_
  refine r_istore_n (L' := [(1, .int 0), (0, .ref (Z.1 (iSt q0)))]) hC dX3_resetSettings_1 (by decide) rfl ?_
  refine r_L [1, 0] rfl ?_
  exact lq1_ind (P := fun (u1 : Int32) (M : Mem) => V X G Z M 0 0 (QN X G (QcV G Z r M') 0 0) 2 [(0, .ref (Z.1 (iSt q0))), (1, .int u1)] []) (fun kk hkk u1 M hf => w_X3_resetSettings_b2 hC hz hZ q0 hq0 kk hkk u1 M hf) _ _ _ hf
set_option maxRecDepth 20000 in
theorem c_X3_resetSettings {l : Launch} (hl : l.stackTraces = false) {G : GG} {Z : ZZ} (hz : ZOk G Z) (hZ : ZM Z) (q0 : Nat) (M : Mem) (hq0 : q0 < 18) (r : Unit) (M' : Mem) (hf : f_X3_resetSettings q0 M = some (r, M')) : CN (QcV G Z r M') l G Z yX3_resetSettings cX3_resetSettings 2 none 0 [.ref (Z.1 (iSt q0))] M :=
  CN.of [(0, .ref (Z.1 (iSt q0)))] hl (by decide +kernel) (Nat.le_of_ble_eq_true rfl) rfl (fun _ hC => w_X3_resetSettings hC hz hZ q0 M hq0 hf)
set_option maxRecDepth 20000 in
theorem w_X3_isPitch {X : XX} {G : GG} {Z : ZZ} (hC : Cx X G RX3 cX3_isPitch (some .boolean) 0 0 0 1) (hz : ZOk G Z) (hZ : ZM Z) (v0 : Int32) (M : Mem)  {r : Int32} {M' : Mem} (hf : f_X3_isPitch v0 M = some (r, M')) : V X G Z M 0 0 (QN X G (QcI G Z r M') 0 0) 0 [(0, .int v0)] [] := by
  unfold f_X3_isPitch at hf
  refine r_iload_n hC dX3_isPitch_0 0 rfl ?_
  refine r_if_lt 14 hC dX3_isPitch_1 (by decide) (fun h => ?_) (fun h => ?_)
  · have hf := if_T hf h
    refine r_iconst (v := 0) hC dX3_isPitch_14 rfl ?_
    exact r_zret hf hC rfl rfl (by decide) (by decide) dX3_isPitch_15
  · have hf := if_F hf h
    refine r_iload_n hC dX3_isPitch_4 0 rfl ?_
    refine r_bipush (v := 60) hC dX3_isPitch_5 rfl ?_
    refine r_icmp_gt 14 hC dX3_isPitch_7 (by decide) (fun h => ?_) (fun h => ?_)
    · have hf := if_T hf h
      refine r_iconst (v := 0) hC dX3_isPitch_14 rfl ?_
      exact r_zret hf hC rfl rfl (by decide) (by decide) dX3_isPitch_15
    · have hf := if_F hf h
      refine r_iconst (v := 1) hC dX3_isPitch_10 rfl ?_
      refine r_goto 15 hC dX3_isPitch_11 (by decide) ?_
      exact r_zret hf hC rfl rfl (by decide) (by decide) dX3_isPitch_15
set_option maxRecDepth 20000 in
theorem c_X3_isPitch {l : Launch} (hl : l.stackTraces = false) {G : GG} {Z : ZZ} (hz : ZOk G Z) (hZ : ZM Z) (v0 : Int32) (M : Mem)  (r : Int32) (M' : Mem) (hf : f_X3_isPitch v0 M = some (r, M')) : CN (QcI G Z r M') l G Z yX3_isPitch cX3_isPitch 1 (some .boolean) 0 [.int v0] M :=
  CN.of [(0, .int v0)] hl (by decide +kernel) (Nat.le_of_ble_eq_true rfl) rfl (fun _ hC => w_X3_isPitch hC hz hZ v0 M  hf)
set_option maxRecDepth 20000 in
theorem w_X3_allowsSetting {X : XX} {G : GG} {Z : ZZ} (hC : Cx X G RX3 cX3_allowsSetting (some .boolean) 1 0 0 2) (hz : ZOk G Z) (hZ : ZM Z) (v0 : Int32) (v1 : Int32) (M : Mem)  {r : Int32} {M' : Mem} (hf : f_X3_allowsSetting v0 v1 M = some (r, M')) : V X G Z M 0 0 (QN X G (QcI G Z r M') 0 0) 0 [(0, .int v0), (1, .int v1)] [] := by
  unfold f_X3_allowsSetting at hf
  refine r_iload_n hC dX3_allowsSetting_0 0 rfl ?_
  refine r_callSI [] (fun r M1 h => c_X3_isSetting (cx_st hC) hz hZ v0 _  r M1 h) hf cs_X3_35 hC  rfl rfl (by decide) (by decide) (Nat.le_of_ble_eq_true rfl) (by decide) (by decide) dX3_allowsSetting_1 (fun x1 M2 hf => ?_)
  refine r_if_eq 29 hC dX3_allowsSetting_4 (by decide) (fun h => ?_) (fun h => ?_)
  · have hf := if_T hf h
    refine r_iconst (v := 0) hC dX3_allowsSetting_29 rfl ?_
    exact r_zret hf hC rfl rfl (by decide) (by decide) dX3_allowsSetting_30
  · have hf := if_F hf h
    refine r_iload_n hC dX3_allowsSetting_7 1 rfl ?_
    refine r_gets (j := 1) (nm := "LEAST_SETTING") (f := fun _ => .null) (fun h => h.2.1.1) hC kw_X3_39 dX3_allowsSetting_8 ?_
    refine r_iload_n hC dX3_allowsSetting_11 0 rfl ?_
    have hin := if_K hf
    have hf := if_V hf
    refine r_tald (f := fun k => sa_least.getD k 0) (fun h => h.2.1.2) hC (inb_vp hin) rfl dX3_allowsSetting_12 ?_
    refine r_icmp_lt 29 hC dX3_allowsSetting_13 (by decide) (fun h => ?_) (fun h => ?_)
    · have hf := if_T hf h
      refine r_iconst (v := 0) hC dX3_allowsSetting_29 rfl ?_
      exact r_zret hf hC rfl rfl (by decide) (by decide) dX3_allowsSetting_30
    · have hf := if_F hf h
      refine r_iload_n hC dX3_allowsSetting_16 1 rfl ?_
      refine r_gets (j := 2) (nm := "MOST_SETTING") (f := fun _ => .null) (fun h => h.2.2.1.1) hC kw_X3_42 dX3_allowsSetting_17 ?_
      refine r_iload_n hC dX3_allowsSetting_20 0 rfl ?_
      have hin := if_K hf
      have hf := if_V hf
      refine r_tald (f := fun k => sa_most.getD k 0) (fun h => h.2.2.1.2) hC (inb_vp hin) rfl dX3_allowsSetting_21 ?_
      refine r_icmp_gt 29 hC dX3_allowsSetting_22 (by decide) (fun h => ?_) (fun h => ?_)
      · have hf := if_T hf h
        refine r_iconst (v := 0) hC dX3_allowsSetting_29 rfl ?_
        exact r_zret hf hC rfl rfl (by decide) (by decide) dX3_allowsSetting_30
      · have hf := if_F hf h
        refine r_iconst (v := 1) hC dX3_allowsSetting_25 rfl ?_
        refine r_goto 30 hC dX3_allowsSetting_26 (by decide) ?_
        exact r_zret hf hC rfl rfl (by decide) (by decide) dX3_allowsSetting_30
set_option maxRecDepth 20000 in
theorem c_X3_allowsSetting {l : Launch} (hl : l.stackTraces = false) {G : GG} {Z : ZZ} (hz : ZOk G Z) (hZ : ZM Z) (v0 : Int32) (v1 : Int32) (M : Mem)  (r : Int32) (M' : Mem) (hf : f_X3_allowsSetting v0 v1 M = some (r, M')) : CN (QcI G Z r M') l G Z yX3_allowsSetting cX3_allowsSetting 2 (some .boolean) 1 [.int v0, .int v1] M :=
  CN.of [(0, .int v0), (1, .int v1)] hl (by decide +kernel) (Nat.le_of_ble_eq_true rfl) rfl (fun _ hC => w_X3_allowsSetting hC hz hZ v0 v1 M  hf)
set_option maxRecDepth 20000 in
theorem w_X3_hasStaff {X : XX} {G : GG} {Z : ZZ} (hC : Cx X G RX3 cX3_hasStaff (some .boolean) 0 0 0 2) (hz : ZOk G Z) (hZ : ZM Z) (q0 : Nat) (v1 : Int32) (M : Mem) (hq0 : q0 < 18) {r : Int32} {M' : Mem} (hf : f_X3_hasStaff q0 v1 M = some (r, M')) : V X G Z M 0 0 (QN X G (QcI G Z r M') 0 0) 0 [(0, .ref (Z.1 (iSt q0))), (1, .int v1)] [] := by
  unfold f_X3_hasStaff at hf
  refine r_iload_n hC dX3_hasStaff_0 1 rfl ?_
  refine r_if_lt 16 hC dX3_hasStaff_1 (by decide) (fun h => ?_) (fun h => ?_)
  · have hf := if_T hf h
    refine r_iconst (v := 0) hC dX3_hasStaff_16 rfl ?_
    exact r_zret hf hC rfl rfl (by decide) (by decide) dX3_hasStaff_17
  · have hf := if_F hf h
    refine r_iload_n hC dX3_hasStaff_4 1 rfl ?_
    refine r_aload_n hC dX3_hasStaff_5 0 rfl ?_
    refine gf_X3_25 hC (z_S hZ hq0) rfl dX3_hasStaff_6 ?_
    refine r_icmp_ge 16 hC dX3_hasStaff_9 (by decide) (fun h => ?_) (fun h => ?_)
    · have hf := if_T hf h
      refine r_iconst (v := 0) hC dX3_hasStaff_16 rfl ?_
      exact r_zret hf hC rfl rfl (by decide) (by decide) dX3_hasStaff_17
    · have hf := if_F hf h
      refine r_iconst (v := 1) hC dX3_hasStaff_12 rfl ?_
      refine r_goto 17 hC dX3_hasStaff_13 (by decide) ?_
      exact r_zret hf hC rfl rfl (by decide) (by decide) dX3_hasStaff_17
set_option maxRecDepth 20000 in
theorem c_X3_hasStaff {l : Launch} (hl : l.stackTraces = false) {G : GG} {Z : ZZ} (hz : ZOk G Z) (hZ : ZM Z) (q0 : Nat) (v1 : Int32) (M : Mem) (hq0 : q0 < 18) (r : Int32) (M' : Mem) (hf : f_X3_hasStaff q0 v1 M = some (r, M')) : CN (QcI G Z r M') l G Z yX3_hasStaff cX3_hasStaff 2 (some .boolean) 0 [.ref (Z.1 (iSt q0)), .int v1] M :=
  CN.of [(0, .ref (Z.1 (iSt q0))), (1, .int v1)] hl (by decide +kernel) (Nat.le_of_ble_eq_true rfl) rfl (fun _ hC => w_X3_hasStaff hC hz hZ q0 v1 M hq0 hf)
set_option maxRecDepth 20000 in
theorem w_X3_hasBeat {X : XX} {G : GG} {Z : ZZ} (hC : Cx X G RX3 cX3_hasBeat (some .boolean) 0 0 0 2) (hz : ZOk G Z) (hZ : ZM Z) (q0 : Nat) (v1 : Int32) (M : Mem) (hq0 : q0 < 18) {r : Int32} {M' : Mem} (hf : f_X3_hasBeat q0 v1 M = some (r, M')) : V X G Z M 0 0 (QN X G (QcI G Z r M') 0 0) 0 [(0, .ref (Z.1 (iSt q0))), (1, .int v1)] [] := by
  unfold f_X3_hasBeat at hf
  refine r_iload_n hC dX3_hasBeat_0 1 rfl ?_
  refine r_if_lt 16 hC dX3_hasBeat_1 (by decide) (fun h => ?_) (fun h => ?_)
  · have hf := if_T hf h
    refine r_iconst (v := 0) hC dX3_hasBeat_16 rfl ?_
    exact r_zret hf hC rfl rfl (by decide) (by decide) dX3_hasBeat_17
  · have hf := if_F hf h
    refine r_iload_n hC dX3_hasBeat_4 1 rfl ?_
    refine r_aload_n hC dX3_hasBeat_5 0 rfl ?_
    refine gf_X3_29 hC (z_S hZ hq0) rfl dX3_hasBeat_6 ?_
    refine r_icmp_ge 16 hC dX3_hasBeat_9 (by decide) (fun h => ?_) (fun h => ?_)
    · have hf := if_T hf h
      refine r_iconst (v := 0) hC dX3_hasBeat_16 rfl ?_
      exact r_zret hf hC rfl rfl (by decide) (by decide) dX3_hasBeat_17
    · have hf := if_F hf h
      refine r_iconst (v := 1) hC dX3_hasBeat_12 rfl ?_
      refine r_goto 17 hC dX3_hasBeat_13 (by decide) ?_
      exact r_zret hf hC rfl rfl (by decide) (by decide) dX3_hasBeat_17
set_option maxRecDepth 20000 in
theorem c_X3_hasBeat {l : Launch} (hl : l.stackTraces = false) {G : GG} {Z : ZZ} (hz : ZOk G Z) (hZ : ZM Z) (q0 : Nat) (v1 : Int32) (M : Mem) (hq0 : q0 < 18) (r : Int32) (M' : Mem) (hf : f_X3_hasBeat q0 v1 M = some (r, M')) : CN (QcI G Z r M') l G Z yX3_hasBeat cX3_hasBeat 2 (some .boolean) 0 [.ref (Z.1 (iSt q0)), .int v1] M :=
  CN.of [(0, .ref (Z.1 (iSt q0))), (1, .int v1)] hl (by decide +kernel) (Nat.le_of_ble_eq_true rfl) rfl (fun _ hC => w_X3_hasBeat hC hz hZ q0 v1 M hq0 hf)
set_option maxRecDepth 20000 in
theorem w_X3_hasCell {X : XX} {G : GG} {Z : ZZ} (hC : Cx X G RX3 cX3_hasCell (some .boolean) 1 0 0 3) (hz : ZOk G Z) (hZ : ZM Z) (q0 : Nat) (v1 : Int32) (v2 : Int32) (M : Mem) (hq0 : q0 < 18) {r : Int32} {M' : Mem} (hf : f_X3_hasCell q0 v1 v2 M = some (r, M')) : V X G Z M 0 0 (QN X G (QcI G Z r M') 0 0) 0 [(0, .ref (Z.1 (iSt q0))), (1, .int v1), (2, .int v2)] [] := by
  unfold f_X3_hasCell at hf
  refine r_aload_n hC dX3_hasCell_0 0 rfl ?_
  refine r_iload_n hC dX3_hasCell_1 1 rfl ?_
  refine r_callVI [] (fun r M1 h => c_X3_hasStaff (cx_st hC) hz hZ q0 v1 _ hq0 r M1 h) hf cs_X3_45 hC (z_S hZ hq0) (q0 := (RX3, TX3, 4)) rfl rfl [.int v1] rfl rfl rfl (by decide) (by decide) (Nat.le_of_ble_eq_true rfl) (by decide) (by decide) dX3_hasCell_2 (fun x1 M2 hf => ?_)
  refine r_if_eq 20 hC dX3_hasCell_5 (by decide) (fun h => ?_) (fun h => ?_)
  · have hf := if_T hf h
    refine r_iconst (v := 0) hC dX3_hasCell_20 rfl ?_
    exact r_zret hf hC rfl rfl (by decide) (by decide) dX3_hasCell_21
  · have hf := if_F hf h
    refine r_aload_n hC dX3_hasCell_8 0 rfl ?_
    refine r_iload_n hC dX3_hasCell_9 2 rfl ?_
    refine r_callVI [] (fun r M1 h => c_X3_hasBeat (cx_st hC) hz hZ q0 v2 _ hq0 r M1 h) hf cs_X3_48 hC (z_S hZ hq0) (q0 := (RX3, TX3, 4)) rfl rfl [.int v2] rfl rfl rfl (by decide) (by decide) (Nat.le_of_ble_eq_true rfl) (by decide) (by decide) dX3_hasCell_10 (fun x3 M4 hf => ?_)
    refine r_if_eq 20 hC dX3_hasCell_13 (by decide) (fun h => ?_) (fun h => ?_)
    · have hf := if_T hf h
      refine r_iconst (v := 0) hC dX3_hasCell_20 rfl ?_
      exact r_zret hf hC rfl rfl (by decide) (by decide) dX3_hasCell_21
    · have hf := if_F hf h
      refine r_iconst (v := 1) hC dX3_hasCell_16 rfl ?_
      refine r_goto 21 hC dX3_hasCell_17 (by decide) ?_
      exact r_zret hf hC rfl rfl (by decide) (by decide) dX3_hasCell_21
set_option maxRecDepth 20000 in
theorem c_X3_hasCell {l : Launch} (hl : l.stackTraces = false) {G : GG} {Z : ZZ} (hz : ZOk G Z) (hZ : ZM Z) (q0 : Nat) (v1 : Int32) (v2 : Int32) (M : Mem) (hq0 : q0 < 18) (r : Int32) (M' : Mem) (hf : f_X3_hasCell q0 v1 v2 M = some (r, M')) : CN (QcI G Z r M') l G Z yX3_hasCell cX3_hasCell 3 (some .boolean) 1 [.ref (Z.1 (iSt q0)), .int v1, .int v2] M :=
  CN.of [(0, .ref (Z.1 (iSt q0))), (1, .int v1), (2, .int v2)] hl (by decide +kernel) (Nat.le_of_ble_eq_true rfl) rfl (fun _ hC => w_X3_hasCell hC hz hZ q0 v1 v2 M hq0 hf)
set_option maxRecDepth 20000 in
theorem w_X3_allowsHold {X : XX} {G : GG} {Z : ZZ} (hC : Cx X G RX3 cX3_allowsHold (some .boolean) 1 0 0 3) (hz : ZOk G Z) (hZ : ZM Z) (q0 : Nat) (v1 : Int32) (v2 : Int32) (M : Mem) (hq0 : q0 < 18) {r : Int32} {M' : Mem} (hf : f_X3_allowsHold q0 v1 v2 M = some (r, M')) : V X G Z M 0 0 (QN X G (QcI G Z r M') 0 0) 0 [(0, .ref (Z.1 (iSt q0))), (1, .int v1), (2, .int v2)] [] := by
  unfold f_X3_allowsHold at hf
  refine r_aload_n hC dX3_allowsHold_0 0 rfl ?_
  refine r_iload_n hC dX3_allowsHold_1 1 rfl ?_
  refine r_iload_n hC dX3_allowsHold_2 2 rfl ?_
  refine r_iconst (v := 1) hC dX3_allowsHold_3 rfl ?_
  refine r_isub hC dX3_allowsHold_4 ?_
  refine r_callVI [] (fun r M1 h => c_X3_written (cx_st hC) hz hZ q0 v1 (v2 - 1) _ hq0 r M1 h) hf cs_X3_51 hC (z_S hZ hq0) (q0 := (RX3, TX3, 4)) rfl rfl [.int v1, .int (v2 - 1)] rfl rfl rfl (by decide) (by decide) (Nat.le_of_ble_eq_true rfl) (by decide) (by decide) dX3_allowsHold_5 (fun x1 M2 hf => ?_)
  refine r_bipush (v := (-9)) hC dX3_allowsHold_8 rfl ?_
  refine r_icmp_eq 17 hC dX3_allowsHold_10 (by decide) (fun h => ?_) (fun h => ?_)
  · have hf := if_T hf h
    refine r_iconst (v := 0) hC dX3_allowsHold_17 rfl ?_
    exact r_zret hf hC rfl rfl (by decide) (by decide) dX3_allowsHold_18
  · have hf := if_F hf h
    refine r_iconst (v := 1) hC dX3_allowsHold_13 rfl ?_
    refine r_goto 18 hC dX3_allowsHold_14 (by decide) ?_
    exact r_zret hf hC rfl rfl (by decide) (by decide) dX3_allowsHold_18
set_option maxRecDepth 20000 in
theorem c_X3_allowsHold {l : Launch} (hl : l.stackTraces = false) {G : GG} {Z : ZZ} (hz : ZOk G Z) (hZ : ZM Z) (q0 : Nat) (v1 : Int32) (v2 : Int32) (M : Mem) (hq0 : q0 < 18) (r : Int32) (M' : Mem) (hf : f_X3_allowsHold q0 v1 v2 M = some (r, M')) : CN (QcI G Z r M') l G Z yX3_allowsHold cX3_allowsHold 3 (some .boolean) 1 [.ref (Z.1 (iSt q0)), .int v1, .int v2] M :=
  CN.of [(0, .ref (Z.1 (iSt q0))), (1, .int v1), (2, .int v2)] hl (by decide +kernel) (Nat.le_of_ble_eq_true rfl) rfl (fun _ hC => w_X3_allowsHold hC hz hZ q0 v1 v2 M hq0 hf)
set_option maxRecDepth 20000 in
theorem w_X3_allowsMoving_b2 {X : XX} {G : GG} {Z : ZZ} {r : Int32} {M' : Mem} (hC : Cx X G RX3 cX3_allowsMoving (some .boolean) 1 0 0 5) (hz : ZOk G Z) (hZ : ZM Z) (q0 : Nat) (v1 : Int32) (v2 : Int32) (hq0 : q0 < 18) (k2 : Int32 → Mem → Option (Int32 × Mem)) (hk2 : ∀ (u3 : Int32) (M : Mem), k2 u3 M = some (r, M') → V X G Z M 0 0 (QN X G (QcI G Z r M') 0 0) 2 [(0, .ref (Z.1 (iSt q0))), (1, .int v1), (2, .int v2), (3, .int u3)] []) (v3 : Int32) (M : Mem) (hf : f_X3_allowsMoving_b2 q0 v1 v2 k2 v3 M = some (r, M')) : V X G Z M 0 0 (QN X G (QcI G Z r M') 0 0) 2 [(0, .ref (Z.1 (iSt q0))), (1, .int v1), (2, .int v2), (3, .int v3)] [] := by
  unfold f_X3_allowsMoving_b2 at hf
  refine r_iload_n hC dX3_allowsMoving_2 3 rfl ?_
  refine r_aload_n hC dX3_allowsMoving_3 0 rfl ?_
  refine gf_X3_29 hC (z_S hZ hq0) rfl dX3_allowsMoving_4 ?_
  refine r_icmp_ge 44 hC dX3_allowsMoving_7 (by decide) (fun h => ?_) (fun h => ?_)
  · have hf := if_T hf h
    refine r_iconst (v := 1) hC dX3_allowsMoving_44 rfl ?_
    exact r_zret hf hC rfl rfl (by decide) (by decide) dX3_allowsMoving_45
  · have hf := if_F hf h
    refine r_aload_n hC dX3_allowsMoving_10 0 rfl ?_
    refine r_iload_n hC dX3_allowsMoving_11 1 rfl ?_
    refine r_iload_n hC dX3_allowsMoving_12 3 rfl ?_
    refine r_callVI [] (fun r M1 h => c_X3_written (cx_st hC) hz hZ q0 v1 v3 _ hq0 r M1 h) hf cs_X3_51 hC (z_S hZ hq0) (q0 := (RX3, TX3, 4)) rfl rfl [.int v1, .int v3] rfl rfl rfl (by decide) (by decide) (Nat.le_of_ble_eq_true rfl) (by decide) (by decide) dX3_allowsMoving_13 (fun x1 M2 hf => ?_)
    refine r_istore (L' := [(4, .int x1), (0, .ref (Z.1 (iSt q0))), (1, .int v1), (2, .int v2), (3, .int v3)]) hC dX3_allowsMoving_16 (by decide) rfl ?_
    refine r_iload hC dX3_allowsMoving_18 0 rfl ?_
    refine r_callSI [] (fun r M1 h => c_X3_isPitch (cx_st hC) hz hZ x1 _  r M1 h) hf cs_X3_55 hC  rfl rfl (by decide) (by decide) (Nat.le_of_ble_eq_true rfl) (by decide) (by decide) dX3_allowsMoving_20 (fun x3 M4 hf => ?_)
    refine r_if_eq 38 hC dX3_allowsMoving_23 (by decide) (fun h => ?_) (fun h => ?_)
    · have hf := if_T hf h
      refine r_iinc (v := v3 + 1) (L' := [(3, .int (v3 + 1)), (4, .int x1), (0, .ref (Z.1 (iSt q0))), (1, .int v1), (2, .int v2)]) hC dX3_allowsMoving_38 4 rfl rfl (by decide) rfl ?_
      refine r_goto 2 hC dX3_allowsMoving_41 (by decide) ?_
      refine r_L [2, 3, 4, 0] rfl ?_
      exact hk2 _ _ hf
    · have hf := if_F hf h
      refine r_iload hC dX3_allowsMoving_26 0 rfl ?_
      refine r_iload_n hC dX3_allowsMoving_28 3 rfl ?_
      refine r_iadd hC dX3_allowsMoving_29 ?_
      refine r_callSI [] (fun r M1 h => c_X3_isPitch (cx_st hC) hz hZ (x1 + v2) _  r M1 h) hf cs_X3_55 hC  rfl rfl (by decide) (by decide) (Nat.le_of_ble_eq_true rfl) (by decide) (by decide) dX3_allowsMoving_30 (fun x5 M6 hf => ?_)
      refine r_if_ne 38 hC dX3_allowsMoving_33 (by decide) (fun h => ?_) (fun h => ?_)
      · have hf := if_F hf h
        refine r_iinc (v := v3 + 1) (L' := [(3, .int (v3 + 1)), (4, .int x1), (0, .ref (Z.1 (iSt q0))), (1, .int v1), (2, .int v2)]) hC dX3_allowsMoving_38 4 rfl rfl (by decide) rfl ?_
        refine r_goto 2 hC dX3_allowsMoving_41 (by decide) ?_
        refine r_L [2, 3, 4, 0] rfl ?_
        exact hk2 _ _ hf
      · have hf := if_T hf h
        refine r_iconst (v := 0) hC dX3_allowsMoving_36 rfl ?_
        exact r_zret hf hC rfl rfl (by decide) (by decide) dX3_allowsMoving_37
set_option maxRecDepth 20000 in
theorem w_X3_allowsMoving {X : XX} {G : GG} {Z : ZZ} (hC : Cx X G RX3 cX3_allowsMoving (some .boolean) 1 0 0 5) (hz : ZOk G Z) (hZ : ZM Z) (q0 : Nat) (v1 : Int32) (v2 : Int32) (M : Mem) (hq0 : q0 < 18) {r : Int32} {M' : Mem} (hf : f_X3_allowsMoving q0 v1 v2 M = some (r, M')) : V X G Z M 0 0 (QN X G (QcI G Z r M') 0 0) 0 [(0, .ref (Z.1 (iSt q0))), (1, .int v1), (2, .int v2)] [] := by
  unfold f_X3_allowsMoving at hf
  refine r_iconst (v := 0) hC dX3_allowsMoving_0 rfl ?_
  refine r_istore_n (L' := [(3, .int 0), (0, .ref (Z.1 (iSt q0))), (1, .int v1), (2, .int v2)]) hC dX3_allowsMoving_1 (by decide) rfl ?_
  refine r_L [1, 2, 3, 0] rfl ?_
  exact lq1_ind (P := fun (u3 : Int32) (M : Mem) => V X G Z M 0 0 (QN X G (QcI G Z r M') 0 0) 2 [(0, .ref (Z.1 (iSt q0))), (1, .int v1), (2, .int v2), (3, .int u3)] []) (fun kk hkk u3 M hf => w_X3_allowsMoving_b2 hC hz hZ q0 v1 v2 hq0 kk hkk u3 M hf) _ _ _ hf
set_option maxRecDepth 20000 in
theorem c_X3_allowsMoving {l : Launch} (hl : l.stackTraces = false) {G : GG} {Z : ZZ} (hz : ZOk G Z) (hZ : ZM Z) (q0 : Nat) (v1 : Int32) (v2 : Int32) (M : Mem) (hq0 : q0 < 18) (r : Int32) (M' : Mem) (hf : f_X3_allowsMoving q0 v1 v2 M = some (r, M')) : CN (QcI G Z r M') l G Z yX3_allowsMoving cX3_allowsMoving 5 (some .boolean) 1 [.ref (Z.1 (iSt q0)), .int v1, .int v2] M :=
  CN.of [(0, .ref (Z.1 (iSt q0))), (1, .int v1), (2, .int v2)] hl (by decide +kernel) (Nat.le_of_ble_eq_true rfl) rfl (fun _ hC => w_X3_allowsMoving hC hz hZ q0 v1 v2 M hq0 hf)
set_option maxRecDepth 20000 in
theorem w_X3_countStruckOf_b4 {X : XX} {G : GG} {Z : ZZ} {r : Int32} {M' : Mem} (hC : Cx X G RX3 cX3_countStruckOf (some .int) 1 0 0 4) (hz : ZOk G Z) (hZ : ZM Z) (q0 : Nat) (v1 : Int32) (hq0 : q0 < 18) (k4 : Int32 → Int32 → Mem → Option (Int32 × Mem)) (hk4 : ∀ (u2 : Int32) (u3 : Int32) (M : Mem), k4 u2 u3 M = some (r, M') → V X G Z M 0 0 (QN X G (QcI G Z r M') 0 0) 4 [(0, .ref (Z.1 (iSt q0))), (1, .int v1), (2, .int u2), (3, .int u3)] []) (v2 : Int32) (v3 : Int32) (M : Mem) (hf : f_X3_countStruckOf_b4 q0 v1 k4 v2 v3 M = some (r, M')) : V X G Z M 0 0 (QN X G (QcI G Z r M') 0 0) 4 [(0, .ref (Z.1 (iSt q0))), (1, .int v1), (2, .int v2), (3, .int v3)] [] := by
  unfold f_X3_countStruckOf_b4 at hf
  refine r_iload_n hC dX3_countStruckOf_4 3 rfl ?_
  refine r_aload_n hC dX3_countStruckOf_5 0 rfl ?_
  refine gf_X3_29 hC (z_S hZ hq0) rfl dX3_countStruckOf_6 ?_
  refine r_icmp_ge 33 hC dX3_countStruckOf_9 (by decide) (fun h => ?_) (fun h => ?_)
  · have hf := if_T hf h
    refine r_iload_n hC dX3_countStruckOf_33 2 rfl ?_
    exact r_iret hf hC (by decide) (by decide) dX3_countStruckOf_34
  · have hf := if_F hf h
    refine r_aload_n hC dX3_countStruckOf_12 0 rfl ?_
    refine r_iload_n hC dX3_countStruckOf_13 1 rfl ?_
    refine r_iload_n hC dX3_countStruckOf_14 3 rfl ?_
    refine r_callVI [] (fun r M1 h => c_X3_written (cx_st hC) hz hZ q0 v1 v3 _ hq0 r M1 h) hf cs_X3_51 hC (z_S hZ hq0) (q0 := (RX3, TX3, 4)) rfl rfl [.int v1, .int v3] rfl rfl rfl (by decide) (by decide) (Nat.le_of_ble_eq_true rfl) (by decide) (by decide) dX3_countStruckOf_15 (fun x1 M2 hf => ?_)
    refine r_callSI [] (fun r M1 h => c_X3_isPitch (cx_st hC) hz hZ x1 _  r M1 h) hf cs_X3_55 hC  rfl rfl (by decide) (by decide) (Nat.le_of_ble_eq_true rfl) (by decide) (by decide) dX3_countStruckOf_18 (fun x3 M4 hf => ?_)
    refine r_if_eq 27 hC dX3_countStruckOf_21 (by decide) (fun h => ?_) (fun h => ?_)
    · have hf := if_T hf h
      refine r_iinc (v := v3 + 1) (L' := [(3, .int (v3 + 1)), (0, .ref (Z.1 (iSt q0))), (1, .int v1), (2, .int v2)]) hC dX3_countStruckOf_27 3 rfl rfl (by decide) rfl ?_
      refine r_goto 4 hC dX3_countStruckOf_30 (by decide) ?_
      refine r_L [1, 2, 3, 0] rfl ?_
      exact hk4 _ _ _ hf
    · have hf := if_F hf h
      refine r_iinc (v := v2 + 1) (L' := [(2, .int (v2 + 1)), (0, .ref (Z.1 (iSt q0))), (1, .int v1), (3, .int v3)]) hC dX3_countStruckOf_24 2 rfl rfl (by decide) rfl ?_
      refine r_iinc (v := v3 + 1) (L' := [(3, .int (v3 + 1)), (2, .int (v2 + 1)), (0, .ref (Z.1 (iSt q0))), (1, .int v1)]) hC dX3_countStruckOf_27 3 rfl rfl (by decide) rfl ?_
      refine r_goto 4 hC dX3_countStruckOf_30 (by decide) ?_
      refine r_L [2, 3, 1, 0] rfl ?_
      exact hk4 _ _ _ hf
set_option maxRecDepth 20000 in
theorem w_X3_countStruckOf {X : XX} {G : GG} {Z : ZZ} (hC : Cx X G RX3 cX3_countStruckOf (some .int) 1 0 0 4) (hz : ZOk G Z) (hZ : ZM Z) (q0 : Nat) (v1 : Int32) (M : Mem) (hq0 : q0 < 18) {r : Int32} {M' : Mem} (hf : f_X3_countStruckOf q0 v1 M = some (r, M')) : V X G Z M 0 0 (QN X G (QcI G Z r M') 0 0) 0 [(0, .ref (Z.1 (iSt q0))), (1, .int v1)] [] := by
  unfold f_X3_countStruckOf at hf
  refine r_iconst (v := 0) hC dX3_countStruckOf_0 rfl ?_
  refine r_istore_n (L' := [(2, .int 0), (0, .ref (Z.1 (iSt q0))), (1, .int v1)]) hC dX3_countStruckOf_1 (by decide) rfl ?_
  refine r_iconst (v := 0) hC dX3_countStruckOf_2 rfl ?_
  refine r_istore_n (L' := [(3, .int 0), (2, .int 0), (0, .ref (Z.1 (iSt q0))), (1, .int v1)]) hC dX3_countStruckOf_3 (by decide) rfl ?_
  refine r_L [2, 3, 1, 0] rfl ?_
  exact lq2_ind (P := fun (u2 : Int32) (u3 : Int32) (M : Mem) => V X G Z M 0 0 (QN X G (QcI G Z r M') 0 0) 4 [(0, .ref (Z.1 (iSt q0))), (1, .int v1), (2, .int u2), (3, .int u3)] []) (fun kk hkk u2 u3 M hf => w_X3_countStruckOf_b4 hC hz hZ q0 v1 hq0 kk hkk u2 u3 M hf) _ _ _ _ hf
set_option maxRecDepth 20000 in
theorem c_X3_countStruckOf {l : Launch} (hl : l.stackTraces = false) {G : GG} {Z : ZZ} (hz : ZOk G Z) (hZ : ZM Z) (q0 : Nat) (v1 : Int32) (M : Mem) (hq0 : q0 < 18) (r : Int32) (M' : Mem) (hf : f_X3_countStruckOf q0 v1 M = some (r, M')) : CN (QcI G Z r M') l G Z yX3_countStruckOf cX3_countStruckOf 4 (some .int) 1 [.ref (Z.1 (iSt q0)), .int v1] M :=
  CN.of [(0, .ref (Z.1 (iSt q0))), (1, .int v1)] hl (by decide +kernel) (Nat.le_of_ble_eq_true rfl) rfl (fun _ hC => w_X3_countStruckOf hC hz hZ q0 v1 M hq0 hf)
set_option maxRecDepth 20000 in
theorem w_X3_countStruck_b4 {X : XX} {G : GG} {Z : ZZ} {r : Int32} {M' : Mem} (hC : Cx X G RX3 cX3_countStruck (some .int) 2 0 0 3) (hz : ZOk G Z) (hZ : ZM Z) (q0 : Nat) (hq0 : q0 < 18) (k4 : Int32 → Int32 → Mem → Option (Int32 × Mem)) (hk4 : ∀ (u1 : Int32) (u2 : Int32) (M : Mem), k4 u1 u2 M = some (r, M') → V X G Z M 0 0 (QN X G (QcI G Z r M') 0 0) 4 [(0, .ref (Z.1 (iSt q0))), (1, .int u1), (2, .int u2)] []) (v1 : Int32) (v2 : Int32) (M : Mem) (hf : f_X3_countStruck_b4 q0 k4 v1 v2 M = some (r, M')) : V X G Z M 0 0 (QN X G (QcI G Z r M') 0 0) 4 [(0, .ref (Z.1 (iSt q0))), (1, .int v1), (2, .int v2)] [] := by
  unfold f_X3_countStruck_b4 at hf
  refine r_iload_n hC dX3_countStruck_4 2 rfl ?_
  refine r_aload_n hC dX3_countStruck_5 0 rfl ?_
  refine gf_X3_25 hC (z_S hZ hq0) rfl dX3_countStruck_6 ?_
  refine r_icmp_ge 26 hC dX3_countStruck_9 (by decide) (fun h => ?_) (fun h => ?_)
  · have hf := if_T hf h
    refine r_iload_n hC dX3_countStruck_26 1 rfl ?_
    exact r_iret hf hC (by decide) (by decide) dX3_countStruck_27
  · have hf := if_F hf h
    refine r_iload_n hC dX3_countStruck_12 1 rfl ?_
    refine r_aload_n hC dX3_countStruck_13 0 rfl ?_
    refine r_iload_n hC dX3_countStruck_14 2 rfl ?_
    refine r_callVI [.int v1] (fun r M1 h => c_X3_countStruckOf (cx_st hC) hz hZ q0 v2 _ hq0 r M1 h) hf cs_X3_58 hC (z_S hZ hq0) (q0 := (RX3, TX3, 4)) rfl rfl [.int v2] rfl rfl rfl (by decide) (by decide) (Nat.le_of_ble_eq_true rfl) (by decide) (by decide) dX3_countStruck_15 (fun x1 M2 hf => ?_)
    refine r_iadd hC dX3_countStruck_18 ?_
    refine r_istore_n (L' := [(1, .int (v1 + x1)), (0, .ref (Z.1 (iSt q0))), (2, .int v2)]) hC dX3_countStruck_19 (by decide) rfl ?_
    refine r_iinc (v := v2 + 1) (L' := [(2, .int (v2 + 1)), (1, .int (v1 + x1)), (0, .ref (Z.1 (iSt q0)))]) hC dX3_countStruck_20 2 rfl rfl (by decide) rfl ?_
    refine r_goto 4 hC dX3_countStruck_23 (by decide) ?_
    refine r_L [2, 1, 0] rfl ?_
    exact hk4 _ _ _ hf
set_option maxRecDepth 20000 in
theorem w_X3_countStruck {X : XX} {G : GG} {Z : ZZ} (hC : Cx X G RX3 cX3_countStruck (some .int) 2 0 0 3) (hz : ZOk G Z) (hZ : ZM Z) (q0 : Nat) (M : Mem) (hq0 : q0 < 18) {r : Int32} {M' : Mem} (hf : f_X3_countStruck q0 M = some (r, M')) : V X G Z M 0 0 (QN X G (QcI G Z r M') 0 0) 0 [(0, .ref (Z.1 (iSt q0)))] [] := by
  unfold f_X3_countStruck at hf
  refine r_iconst (v := 0) hC dX3_countStruck_0 rfl ?_
  refine r_istore_n (L' := [(1, .int 0), (0, .ref (Z.1 (iSt q0)))]) hC dX3_countStruck_1 (by decide) rfl ?_
  refine r_iconst (v := 0) hC dX3_countStruck_2 rfl ?_
  refine r_istore_n (L' := [(2, .int 0), (1, .int 0), (0, .ref (Z.1 (iSt q0)))]) hC dX3_countStruck_3 (by decide) rfl ?_
  refine r_L [2, 1, 0] rfl ?_
  exact lq2_ind (P := fun (u1 : Int32) (u2 : Int32) (M : Mem) => V X G Z M 0 0 (QN X G (QcI G Z r M') 0 0) 4 [(0, .ref (Z.1 (iSt q0))), (1, .int u1), (2, .int u2)] []) (fun kk hkk u1 u2 M hf => w_X3_countStruck_b4 hC hz hZ q0 hq0 kk hkk u1 u2 M hf) _ _ _ _ hf
set_option maxRecDepth 20000 in
theorem c_X3_countStruck {l : Launch} (hl : l.stackTraces = false) {G : GG} {Z : ZZ} (hz : ZOk G Z) (hZ : ZM Z) (q0 : Nat) (M : Mem) (hq0 : q0 < 18) (r : Int32) (M' : Mem) (hf : f_X3_countStruck q0 M = some (r, M')) : CN (QcI G Z r M') l G Z yX3_countStruck cX3_countStruck 3 (some .int) 2 [.ref (Z.1 (iSt q0))] M :=
  CN.of [(0, .ref (Z.1 (iSt q0)))] hl (by decide +kernel) (Nat.le_of_ble_eq_true rfl) rfl (fun _ hC => w_X3_countStruck hC hz hZ q0 M hq0 hf)
set_option maxRecDepth 20000 in
theorem w_X3_countHolds_b14 {X : XX} {G : GG} {Z : ZZ} {r : Int32} {M' : Mem} (hC : Cx X G RX3 cX3_countHolds (some .int) 1 0 0 4) (hz : ZOk G Z) (hZ : ZM Z) (q0 : Nat) (v2 : Int32) (hq0 : q0 < 18) (k4 : Int32 → Int32 → Mem → Option (Int32 × Mem)) (hk4 : ∀ (u1 : Int32) (u2 : Int32) (M : Mem), k4 u1 u2 M = some (r, M') → V X G Z M 0 0 (QN X G (QcI G Z r M') 0 0) 4 [(0, .ref (Z.1 (iSt q0))), (1, .int u1), (2, .int u2)] []) (k14 : Int32 → Int32 → Mem → Option (Int32 × Mem)) (hk14 : ∀ (u1 : Int32) (u3 : Int32) (M : Mem), k14 u1 u3 M = some (r, M') → V X G Z M 0 0 (QN X G (QcI G Z r M') 0 0) 14 [(0, .ref (Z.1 (iSt q0))), (1, .int u1), (2, .int v2), (3, .int u3)] []) (v1 : Int32) (v3 : Int32) (M : Mem) (hf : f_X3_countHolds_b14 q0 v2 k4 k14 v1 v3 M = some (r, M')) : V X G Z M 0 0 (QN X G (QcI G Z r M') 0 0) 14 [(0, .ref (Z.1 (iSt q0))), (1, .int v1), (2, .int v2), (3, .int v3)] [] := by
  unfold f_X3_countHolds_b14 at hf
  refine r_iload_n hC dX3_countHolds_14 3 rfl ?_
  refine r_aload_n hC dX3_countHolds_15 0 rfl ?_
  refine gf_X3_29 hC (z_S hZ hq0) rfl dX3_countHolds_16 ?_
  refine r_icmp_ge 42 hC dX3_countHolds_19 (by decide) (fun h => ?_) (fun h => ?_)
  · have hf := if_T hf h
    refine r_iinc (v := v2 + 1) (L' := [(2, .int (v2 + 1)), (0, .ref (Z.1 (iSt q0))), (1, .int v1), (3, .int v3)]) hC dX3_countHolds_42 2 rfl rfl (by decide) rfl ?_
    refine r_goto 4 hC dX3_countHolds_45 (by decide) ?_
    refine r_L [1, 2, 0] rfl ?_
    exact hk4 _ _ _ hf
  · have hf := if_F hf h
    refine r_aload_n hC dX3_countHolds_22 0 rfl ?_
    refine r_iload_n hC dX3_countHolds_23 2 rfl ?_
    refine r_iload_n hC dX3_countHolds_24 3 rfl ?_
    refine r_callVI [] (fun r M1 h => c_X3_written (cx_st hC) hz hZ q0 v2 v3 _ hq0 r M1 h) hf cs_X3_51 hC (z_S hZ hq0) (q0 := (RX3, TX3, 4)) rfl rfl [.int v2, .int v3] rfl rfl rfl (by decide) (by decide) (Nat.le_of_ble_eq_true rfl) (by decide) (by decide) dX3_countHolds_25 (fun x1 M2 hf => ?_)
    refine r_bipush (v := 99) hC dX3_countHolds_28 rfl ?_
    refine r_icmp_ne 36 hC dX3_countHolds_30 (by decide) (fun h => ?_) (fun h => ?_)
    · have hf := if_F hf h
      refine r_iinc (v := v3 + 1) (L' := [(3, .int (v3 + 1)), (0, .ref (Z.1 (iSt q0))), (1, .int v1), (2, .int v2)]) hC dX3_countHolds_36 3 rfl rfl (by decide) rfl ?_
      refine r_goto 14 hC dX3_countHolds_39 (by decide) ?_
      refine r_L [1, 2, 3, 0] rfl ?_
      exact hk14 _ _ _ hf
    · have hf := if_T hf h
      refine r_iinc (v := v1 + 1) (L' := [(1, .int (v1 + 1)), (0, .ref (Z.1 (iSt q0))), (2, .int v2), (3, .int v3)]) hC dX3_countHolds_33 1 rfl rfl (by decide) rfl ?_
      refine r_iinc (v := v3 + 1) (L' := [(3, .int (v3 + 1)), (1, .int (v1 + 1)), (0, .ref (Z.1 (iSt q0))), (2, .int v2)]) hC dX3_countHolds_36 3 rfl rfl (by decide) rfl ?_
      refine r_goto 14 hC dX3_countHolds_39 (by decide) ?_
      refine r_L [2, 1, 3, 0] rfl ?_
      exact hk14 _ _ _ hf
set_option maxRecDepth 20000 in
theorem w_X3_countHolds_b4 {X : XX} {G : GG} {Z : ZZ} {r : Int32} {M' : Mem} (hC : Cx X G RX3 cX3_countHolds (some .int) 1 0 0 4) (hz : ZOk G Z) (hZ : ZM Z) (q0 : Nat) (hq0 : q0 < 18) (k4 : Int32 → Int32 → Mem → Option (Int32 × Mem)) (hk4 : ∀ (u1 : Int32) (u2 : Int32) (M : Mem), k4 u1 u2 M = some (r, M') → V X G Z M 0 0 (QN X G (QcI G Z r M') 0 0) 4 [(0, .ref (Z.1 (iSt q0))), (1, .int u1), (2, .int u2)] []) (v1 : Int32) (v2 : Int32) (M : Mem) (hf : f_X3_countHolds_b4 q0 k4 v1 v2 M = some (r, M')) : V X G Z M 0 0 (QN X G (QcI G Z r M') 0 0) 4 [(0, .ref (Z.1 (iSt q0))), (1, .int v1), (2, .int v2)] [] := by
  unfold f_X3_countHolds_b4 at hf
  refine r_iload_n hC dX3_countHolds_4 2 rfl ?_
  refine r_aload_n hC dX3_countHolds_5 0 rfl ?_
  refine gf_X3_25 hC (z_S hZ hq0) rfl dX3_countHolds_6 ?_
  refine r_icmp_ge 48 hC dX3_countHolds_9 (by decide) (fun h => ?_) (fun h => ?_)
  · have hf := if_T hf h
    refine r_iload_n hC dX3_countHolds_48 1 rfl ?_
    exact r_iret hf hC (by decide) (by decide) dX3_countHolds_49
  · have hf := if_F hf h
    refine r_iconst (v := 0) hC dX3_countHolds_12 rfl ?_
    refine r_istore_n (L' := [(3, .int 0), (0, .ref (Z.1 (iSt q0))), (1, .int v1), (2, .int v2)]) hC dX3_countHolds_13 (by decide) rfl ?_
    refine r_L [1, 2, 3, 0] rfl ?_
    exact lq2_ind (P := fun (u1 : Int32) (u3 : Int32) (M : Mem) => V X G Z M 0 0 (QN X G (QcI G Z r M') 0 0) 14 [(0, .ref (Z.1 (iSt q0))), (1, .int u1), (2, .int v2), (3, .int u3)] []) (fun kk hkk u1 u3 M hf => w_X3_countHolds_b14 hC hz hZ q0 v2 hq0 k4 hk4 kk hkk u1 u3 M hf) _ _ _ _ hf
set_option maxRecDepth 20000 in
theorem w_X3_countHolds {X : XX} {G : GG} {Z : ZZ} (hC : Cx X G RX3 cX3_countHolds (some .int) 1 0 0 4) (hz : ZOk G Z) (hZ : ZM Z) (q0 : Nat) (M : Mem) (hq0 : q0 < 18) {r : Int32} {M' : Mem} (hf : f_X3_countHolds q0 M = some (r, M')) : V X G Z M 0 0 (QN X G (QcI G Z r M') 0 0) 0 [(0, .ref (Z.1 (iSt q0)))] [] := by
  unfold f_X3_countHolds at hf
  refine r_iconst (v := 0) hC dX3_countHolds_0 rfl ?_
  refine r_istore_n (L' := [(1, .int 0), (0, .ref (Z.1 (iSt q0)))]) hC dX3_countHolds_1 (by decide) rfl ?_
  refine r_iconst (v := 0) hC dX3_countHolds_2 rfl ?_
  refine r_istore_n (L' := [(2, .int 0), (1, .int 0), (0, .ref (Z.1 (iSt q0)))]) hC dX3_countHolds_3 (by decide) rfl ?_
  refine r_L [2, 1, 0] rfl ?_
  exact lq2_ind (P := fun (u1 : Int32) (u2 : Int32) (M : Mem) => V X G Z M 0 0 (QN X G (QcI G Z r M') 0 0) 4 [(0, .ref (Z.1 (iSt q0))), (1, .int u1), (2, .int u2)] []) (fun kk hkk u1 u2 M hf => w_X3_countHolds_b4 hC hz hZ q0 hq0 kk hkk u1 u2 M hf) _ _ _ _ hf
set_option maxRecDepth 20000 in
theorem c_X3_countHolds {l : Launch} (hl : l.stackTraces = false) {G : GG} {Z : ZZ} (hz : ZOk G Z) (hZ : ZM Z) (q0 : Nat) (M : Mem) (hq0 : q0 < 18) (r : Int32) (M' : Mem) (hf : f_X3_countHolds q0 M = some (r, M')) : CN (QcI G Z r M') l G Z yX3_countHolds cX3_countHolds 4 (some .int) 1 [.ref (Z.1 (iSt q0))] M :=
  CN.of [(0, .ref (Z.1 (iSt q0)))] hl (by decide +kernel) (Nat.le_of_ble_eq_true rfl) rfl (fun _ hC => w_X3_countHolds hC hz hZ q0 M hq0 hf)
set_option maxRecDepth 20000 in
theorem w_X3_changeSetting {X : XX} {G : GG} {Z : ZZ} (hC : Cx X G RX3 cX3_changeSetting none 1 0 0 3) (hz : ZOk G Z) (hZ : ZM Z) (q0 : Nat) (v1 : Int32) (v2 : Int32) (M : Mem) (hq0 : q0 < 18) {r : Unit} {M' : Mem} (hf : f_X3_changeSetting q0 v1 v2 M = some (r, M')) : V X G Z M 0 0 (QN X G (QcV G Z r M') 0 0) 0 [(0, .ref (Z.1 (iSt q0))), (1, .int v1), (2, .int v2)] [] := by
  unfold f_X3_changeSetting at hf
  refine r_iload_n hC dX3_changeSetting_0 1 rfl ?_
  refine r_callSI [] (fun r M1 h => c_X3_isSetting (cx_st hC) hz hZ v1 _  r M1 h) hf cs_X3_35 hC  rfl rfl (by decide) (by decide) (Nat.le_of_ble_eq_true rfl) (by decide) (by decide) dX3_changeSetting_1 (fun x1 M2 hf => ?_)
  refine r_if_eq 14 hC dX3_changeSetting_4 (by decide) (fun h => ?_) (fun h => ?_)
  · have hf := if_T hf h
    exact r_vret hf hC (by decide) (by decide) dX3_changeSetting_14
  · have hf := if_F hf h
    refine r_aload_n hC dX3_changeSetting_7 0 rfl ?_
    refine gf_X3_9 hC (z_S hZ hq0) rfl dX3_changeSetting_8 ?_
    refine r_iload_n hC dX3_changeSetting_11 1 rfl ?_
    refine r_iload_n hC dX3_changeSetting_12 2 rfl ?_
    have hin := if_K hf
    have hf := if_V hf
    refine r_iast hC hz (z_S1 hZ hq0) (inb_vp hin) dX3_changeSetting_13 ?_
    exact r_vret hf hC (by decide) (by decide) dX3_changeSetting_14
set_option maxRecDepth 20000 in
theorem c_X3_changeSetting {l : Launch} (hl : l.stackTraces = false) {G : GG} {Z : ZZ} (hz : ZOk G Z) (hZ : ZM Z) (q0 : Nat) (v1 : Int32) (v2 : Int32) (M : Mem) (hq0 : q0 < 18) (r : Unit) (M' : Mem) (hf : f_X3_changeSetting q0 v1 v2 M = some (r, M')) : CN (QcV G Z r M') l G Z yX3_changeSetting cX3_changeSetting 3 none 1 [.ref (Z.1 (iSt q0)), .int v1, .int v2] M :=
  CN.of [(0, .ref (Z.1 (iSt q0))), (1, .int v1), (2, .int v2)] hl (by decide +kernel) (Nat.le_of_ble_eq_true rfl) rfl (fun _ hC => w_X3_changeSetting hC hz hZ q0 v1 v2 M hq0 hf)
set_option maxRecDepth 20000 in
theorem w_X3_put {X : XX} {G : GG} {Z : ZZ} (hC : Cx X G RX3 cX3_put none 2 0 0 4) (hz : ZOk G Z) (hZ : ZM Z) (q0 : Nat) (v1 : Int32) (v2 : Int32) (v3 : Int32) (M : Mem) (hq0 : q0 < 18) {r : Unit} {M' : Mem} (hf : f_X3_put q0 v1 v2 v3 M = some (r, M')) : V X G Z M 0 0 (QN X G (QcV G Z r M') 0 0) 0 [(0, .ref (Z.1 (iSt q0))), (1, .int v1), (2, .int v2), (3, .int v3)] [] := by
  unfold f_X3_put at hf
  refine r_aload_n hC dX3_put_0 0 rfl ?_
  refine r_iload_n hC dX3_put_1 1 rfl ?_
  refine r_iload_n hC dX3_put_2 2 rfl ?_
  refine r_callVI [] (fun r M1 h => c_X3_hasCell (cx_st hC) hz hZ q0 v1 v2 _ hq0 r M1 h) hf cs_X3_62 hC (z_S hZ hq0) (q0 := (RX3, TX3, 4)) rfl rfl [.int v1, .int v2] rfl rfl rfl (by decide) (by decide) (Nat.le_of_ble_eq_true rfl) (by decide) (by decide) dX3_put_3 (fun x1 M2 hf => ?_)
  refine r_if_eq 21 hC dX3_put_6 (by decide) (fun h => ?_) (fun h => ?_)
  · have hf := if_T hf h
    exact r_vret hf hC (by decide) (by decide) dX3_put_21
  · have hf := if_F hf h
    refine r_aload_n hC dX3_put_9 0 rfl ?_
    refine gf_X3_15 hC (z_S hZ hq0) rfl dX3_put_10 ?_
    refine r_iload_n hC dX3_put_13 1 rfl ?_
    refine r_bipush (v := 16) hC dX3_put_14 rfl ?_
    refine r_imul hC dX3_put_16 ?_
    refine r_iload_n hC dX3_put_17 2 rfl ?_
    refine r_iadd hC dX3_put_18 ?_
    refine r_iload_n hC dX3_put_19 3 rfl ?_
    have hin := if_K hf
    have hf := if_V hf
    refine r_iast hC hz (z_S2 hZ hq0) (inb_vp hin) dX3_put_20 ?_
    exact r_vret hf hC (by decide) (by decide) dX3_put_21
set_option maxRecDepth 20000 in
theorem c_X3_put {l : Launch} (hl : l.stackTraces = false) {G : GG} {Z : ZZ} (hz : ZOk G Z) (hZ : ZM Z) (q0 : Nat) (v1 : Int32) (v2 : Int32) (v3 : Int32) (M : Mem) (hq0 : q0 < 18) (r : Unit) (M' : Mem) (hf : f_X3_put q0 v1 v2 v3 M = some (r, M')) : CN (QcV G Z r M') l G Z yX3_put cX3_put 4 none 2 [.ref (Z.1 (iSt q0)), .int v1, .int v2, .int v3] M :=
  CN.of [(0, .ref (Z.1 (iSt q0))), (1, .int v1), (2, .int v2), (3, .int v3)] hl (by decide +kernel) (Nat.le_of_ble_eq_true rfl) rfl (fun _ hC => w_X3_put hC hz hZ q0 v1 v2 v3 M hq0 hf)
set_option maxRecDepth 20000 in
theorem w_X3_silenceStaff_b2 {X : XX} {G : GG} {Z : ZZ} {r : Unit} {M' : Mem} (hC : Cx X G RX3 cX3_silenceStaff none 3 0 0 3) (hz : ZOk G Z) (hZ : ZM Z) (q0 : Nat) (v1 : Int32) (hq0 : q0 < 18) (k2 : Int32 → Mem → Option (Unit × Mem)) (hk2 : ∀ (u2 : Int32) (M : Mem), k2 u2 M = some (r, M') → V X G Z M 0 0 (QN X G (QcV G Z r M') 0 0) 2 [(0, .ref (Z.1 (iSt q0))), (1, .int v1), (2, .int u2)] []) (v2 : Int32) (M : Mem) (hf : f_X3_silenceStaff_b2 q0 v1 k2 v2 M = some (r, M')) : V X G Z M 0 0 (QN X G (QcV G Z r M') 0 0) 2 [(0, .ref (Z.1 (iSt q0))), (1, .int v1), (2, .int v2)] [] := by
  unfold f_X3_silenceStaff_b2 at hf
  refine r_iload_n hC dX3_silenceStaff_2 2 rfl ?_
  refine r_aload_n hC dX3_silenceStaff_3 0 rfl ?_
  refine gf_X3_29 hC (z_S hZ hq0) rfl dX3_silenceStaff_4 ?_
  refine r_icmp_ge 24 hC dX3_silenceStaff_7 (by decide) (fun h => ?_) (fun h => ?_)
  · have hf := if_T hf h
    exact r_vret hf hC (by decide) (by decide) dX3_silenceStaff_24
  · have hf := if_F hf h
    refine r_aload_n hC dX3_silenceStaff_10 0 rfl ?_
    refine r_iload_n hC dX3_silenceStaff_11 1 rfl ?_
    refine r_iload_n hC dX3_silenceStaff_12 2 rfl ?_
    refine r_bipush (v := (-9)) hC dX3_silenceStaff_13 rfl ?_
    refine r_callVV [] (fun r M1 h => c_X3_put (cx_st hC) hz hZ q0 v1 v2 (-9) _ hq0 r M1 h) hf cs_X3_66 hC (z_S hZ hq0) (q0 := (RX3, TX3, 4)) rfl rfl [.int v1, .int v2, .int (-9)] rfl rfl rfl (by decide) (by decide) (Nat.le_of_ble_eq_true rfl) (by decide) (by decide) dX3_silenceStaff_15 (fun x1 M2 hf => ?_)
    refine r_iinc (v := v2 + 1) (L' := [(2, .int (v2 + 1)), (0, .ref (Z.1 (iSt q0))), (1, .int v1)]) hC dX3_silenceStaff_18 2 rfl rfl (by decide) rfl ?_
    refine r_goto 2 hC dX3_silenceStaff_21 (by decide) ?_
    refine r_L [1, 2, 0] rfl ?_
    exact hk2 _ _ hf
set_option maxRecDepth 20000 in
theorem w_X3_silenceStaff {X : XX} {G : GG} {Z : ZZ} (hC : Cx X G RX3 cX3_silenceStaff none 3 0 0 3) (hz : ZOk G Z) (hZ : ZM Z) (q0 : Nat) (v1 : Int32) (M : Mem) (hq0 : q0 < 18) {r : Unit} {M' : Mem} (hf : f_X3_silenceStaff q0 v1 M = some (r, M')) : V X G Z M 0 0 (QN X G (QcV G Z r M') 0 0) 0 [(0, .ref (Z.1 (iSt q0))), (1, .int v1)] [] := by
  unfold f_X3_silenceStaff at hf
  refine r_iconst (v := 0) hC dX3_silenceStaff_0 rfl ?_
  refine r_istore_n (L' := [(2, .int 0), (0, .ref (Z.1 (iSt q0))), (1, .int v1)]) hC dX3_silenceStaff_1 (by decide) rfl ?_
  refine r_L [1, 2, 0] rfl ?_
  exact lq1_ind (P := fun (u2 : Int32) (M : Mem) => V X G Z M 0 0 (QN X G (QcV G Z r M') 0 0) 2 [(0, .ref (Z.1 (iSt q0))), (1, .int v1), (2, .int u2)] []) (fun kk hkk u2 M hf => w_X3_silenceStaff_b2 hC hz hZ q0 v1 hq0 kk hkk u2 M hf) _ _ _ hf
set_option maxRecDepth 20000 in
theorem c_X3_silenceStaff {l : Launch} (hl : l.stackTraces = false) {G : GG} {Z : ZZ} (hz : ZOk G Z) (hZ : ZM Z) (q0 : Nat) (v1 : Int32) (M : Mem) (hq0 : q0 < 18) (r : Unit) (M' : Mem) (hf : f_X3_silenceStaff q0 v1 M = some (r, M')) : CN (QcV G Z r M') l G Z yX3_silenceStaff cX3_silenceStaff 3 none 3 [.ref (Z.1 (iSt q0)), .int v1] M :=
  CN.of [(0, .ref (Z.1 (iSt q0))), (1, .int v1)] hl (by decide +kernel) (Nat.le_of_ble_eq_true rfl) rfl (fun _ hC => w_X3_silenceStaff hC hz hZ q0 v1 M hq0 hf)
set_option maxRecDepth 20000 in
theorem w_X3_moveStaff_b42 {X : XX} {G : GG} {Z : ZZ} {r : Int32} {M' : Mem} (hC : Cx X G RX3 cX3_moveStaff (some .int) 3 0 0 5) (hz : ZOk G Z) (hZ : ZM Z) (q0 : Nat) (v1 : Int32) (hq0 : q0 < 18) (M : Mem) (hf : f_X3_moveStaff_b42 q0 v1 M = some (r, M')) : V X G Z M 0 0 (QN X G (QcI G Z r M') 0 0) 42 [(0, .ref (Z.1 (iSt q0))), (1, .int v1)] [] := by
  unfold f_X3_moveStaff_b42 at hf
  refine r_aload_n hC dX3_moveStaff_42 0 rfl ?_
  refine r_iload_n hC dX3_moveStaff_43 1 rfl ?_
  refine r_callVI [] (fun r M1 h => c_X3_countStruckOf (cx_st hC) hz hZ q0 v1 _ hq0 r M1 h) hf cs_X3_58 hC (z_S hZ hq0) (q0 := (RX3, TX3, 4)) rfl rfl [.int v1] rfl rfl rfl (by decide) (by decide) (Nat.le_of_ble_eq_true rfl) (by decide) (by decide) dX3_moveStaff_44 (fun x7 M8 hf => ?_)
  exact r_iret hf hC (by decide) (by decide) dX3_moveStaff_47
set_option maxRecDepth 20000 in
theorem w_X3_moveStaff_b2 {X : XX} {G : GG} {Z : ZZ} {r : Int32} {M' : Mem} (hC : Cx X G RX3 cX3_moveStaff (some .int) 3 0 0 5) (hz : ZOk G Z) (hZ : ZM Z) (q0 : Nat) (v1 : Int32) (v2 : Int32) (hq0 : q0 < 18) (k2 : Int32 → Mem → Option (Int32 × Mem)) (hk2 : ∀ (u3 : Int32) (M : Mem), k2 u3 M = some (r, M') → V X G Z M 0 0 (QN X G (QcI G Z r M') 0 0) 2 [(0, .ref (Z.1 (iSt q0))), (1, .int v1), (2, .int v2), (3, .int u3)] []) (v3 : Int32) (M : Mem) (hf : f_X3_moveStaff_b2 q0 v1 v2 k2 v3 M = some (r, M')) : V X G Z M 0 0 (QN X G (QcI G Z r M') 0 0) 2 [(0, .ref (Z.1 (iSt q0))), (1, .int v1), (2, .int v2), (3, .int v3)] [] := by
  unfold f_X3_moveStaff_b2 at hf
  refine r_iload_n hC dX3_moveStaff_2 3 rfl ?_
  refine r_aload_n hC dX3_moveStaff_3 0 rfl ?_
  refine gf_X3_29 hC (z_S hZ hq0) rfl dX3_moveStaff_4 ?_
  refine r_icmp_ge 42 hC dX3_moveStaff_7 (by decide) (fun h => ?_) (fun h => ?_)
  · have hf := if_T hf h
    refine r_L [0, 1] rfl ?_
    exact w_X3_moveStaff_b42 hC hz hZ q0 v1 hq0 _ hf
  · have hf := if_F hf h
    refine r_aload_n hC dX3_moveStaff_10 0 rfl ?_
    refine r_iload_n hC dX3_moveStaff_11 1 rfl ?_
    refine r_iload_n hC dX3_moveStaff_12 3 rfl ?_
    refine r_callVI [] (fun r M1 h => c_X3_written (cx_st hC) hz hZ q0 v1 v3 _ hq0 r M1 h) hf cs_X3_51 hC (z_S hZ hq0) (q0 := (RX3, TX3, 4)) rfl rfl [.int v1, .int v3] rfl rfl rfl (by decide) (by decide) (Nat.le_of_ble_eq_true rfl) (by decide) (by decide) dX3_moveStaff_13 (fun x1 M2 hf => ?_)
    refine r_istore (L' := [(4, .int x1), (0, .ref (Z.1 (iSt q0))), (1, .int v1), (2, .int v2), (3, .int v3)]) hC dX3_moveStaff_16 (by decide) rfl ?_
    refine r_iload hC dX3_moveStaff_18 0 rfl ?_
    refine r_callSI [] (fun r M1 h => c_X3_isPitch (cx_st hC) hz hZ x1 _  r M1 h) hf cs_X3_55 hC  rfl rfl (by decide) (by decide) (Nat.le_of_ble_eq_true rfl) (by decide) (by decide) dX3_moveStaff_20 (fun x3 M4 hf => ?_)
    refine r_if_eq 36 hC dX3_moveStaff_23 (by decide) (fun h => ?_) (fun h => ?_)
    · have hf := if_T hf h
      refine r_iinc (v := v3 + 1) (L' := [(3, .int (v3 + 1)), (4, .int x1), (0, .ref (Z.1 (iSt q0))), (1, .int v1), (2, .int v2)]) hC dX3_moveStaff_36 4 rfl rfl (by decide) rfl ?_
      refine r_goto 2 hC dX3_moveStaff_39 (by decide) ?_
      refine r_L [2, 3, 4, 0] rfl ?_
      exact hk2 _ _ hf
    · have hf := if_F hf h
      refine r_aload_n hC dX3_moveStaff_26 1 rfl ?_
      refine r_iload_n hC dX3_moveStaff_27 2 rfl ?_
      refine r_iload_n hC dX3_moveStaff_28 4 rfl ?_
      refine r_iload hC dX3_moveStaff_29 0 rfl ?_
      refine r_iload_n hC dX3_moveStaff_31 3 rfl ?_
      refine r_iadd hC dX3_moveStaff_32 ?_
      refine r_callVV [] (fun r M1 h => c_X3_put (cx_st hC) hz hZ q0 v1 v3 (x1 + v2) _ hq0 r M1 h) hf cs_X3_66 hC (z_S hZ hq0) (q0 := (RX3, TX3, 4)) rfl rfl [.int v1, .int v3, .int (x1 + v2)] rfl rfl rfl (by decide) (by decide) (Nat.le_of_ble_eq_true rfl) (by decide) (by decide) dX3_moveStaff_33 (fun x5 M6 hf => ?_)
      refine r_iinc (v := v3 + 1) (L' := [(3, .int (v3 + 1)), (4, .int x1), (0, .ref (Z.1 (iSt q0))), (1, .int v1), (2, .int v2)]) hC dX3_moveStaff_36 4 rfl rfl (by decide) rfl ?_
      refine r_goto 2 hC dX3_moveStaff_39 (by decide) ?_
      refine r_L [2, 3, 4, 0] rfl ?_
      exact hk2 _ _ hf
set_option maxRecDepth 20000 in
theorem w_X3_moveStaff {X : XX} {G : GG} {Z : ZZ} (hC : Cx X G RX3 cX3_moveStaff (some .int) 3 0 0 5) (hz : ZOk G Z) (hZ : ZM Z) (q0 : Nat) (v1 : Int32) (v2 : Int32) (M : Mem) (hq0 : q0 < 18) {r : Int32} {M' : Mem} (hf : f_X3_moveStaff q0 v1 v2 M = some (r, M')) : V X G Z M 0 0 (QN X G (QcI G Z r M') 0 0) 0 [(0, .ref (Z.1 (iSt q0))), (1, .int v1), (2, .int v2)] [] := by
  unfold f_X3_moveStaff at hf
  refine r_iconst (v := 0) hC dX3_moveStaff_0 rfl ?_
  refine r_istore_n (L' := [(3, .int 0), (0, .ref (Z.1 (iSt q0))), (1, .int v1), (2, .int v2)]) hC dX3_moveStaff_1 (by decide) rfl ?_
  refine r_L [1, 2, 3, 0] rfl ?_
  exact lq1_ind (P := fun (u3 : Int32) (M : Mem) => V X G Z M 0 0 (QN X G (QcI G Z r M') 0 0) 2 [(0, .ref (Z.1 (iSt q0))), (1, .int v1), (2, .int v2), (3, .int u3)] []) (fun kk hkk u3 M hf => w_X3_moveStaff_b2 hC hz hZ q0 v1 v2 hq0 kk hkk u3 M hf) _ _ _ hf
set_option maxRecDepth 20000 in
theorem c_X3_moveStaff {l : Launch} (hl : l.stackTraces = false) {G : GG} {Z : ZZ} (hz : ZOk G Z) (hZ : ZM Z) (q0 : Nat) (v1 : Int32) (v2 : Int32) (M : Mem) (hq0 : q0 < 18) (r : Int32) (M' : Mem) (hf : f_X3_moveStaff q0 v1 v2 M = some (r, M')) : CN (QcI G Z r M') l G Z yX3_moveStaff cX3_moveStaff 5 (some .int) 3 [.ref (Z.1 (iSt q0)), .int v1, .int v2] M :=
  CN.of [(0, .ref (Z.1 (iSt q0))), (1, .int v1), (2, .int v2)] hl (by decide +kernel) (Nat.le_of_ble_eq_true rfl) rfl (fun _ hC => w_X3_moveStaff hC hz hZ q0 v1 v2 M hq0 hf)
set_option maxRecDepth 20000 in
theorem w_X3_swapStaves_b5 {X : XX} {G : GG} {Z : ZZ} {r : Int32} {M' : Mem} (hC : Cx X G RX3 cX3_swapStaves (some .int) 3 0 0 7) (hz : ZOk G Z) (hZ : ZM Z) (q0 : Nat) (v1 : Int32) (v2 : Int32) (hq0 : q0 < 18) (k5 : Int32 → Int32 → Mem → Option (Int32 × Mem)) (hk5 : ∀ (u3 : Int32) (u4 : Int32) (M : Mem), k5 u3 u4 M = some (r, M') → V X G Z M 0 0 (QN X G (QcI G Z r M') 0 0) 5 [(0, .ref (Z.1 (iSt q0))), (1, .int v1), (2, .int v2), (3, .int u3), (4, .int u4)] []) (v3 : Int32) (v4 : Int32) (M : Mem) (hf : f_X3_swapStaves_b5 q0 v1 v2 k5 v3 v4 M = some (r, M')) : V X G Z M 0 0 (QN X G (QcI G Z r M') 0 0) 5 [(0, .ref (Z.1 (iSt q0))), (1, .int v1), (2, .int v2), (3, .int v3), (4, .int v4)] [] := by
  unfold f_X3_swapStaves_b5 at hf
  refine r_iload hC dX3_swapStaves_5 4 rfl ?_
  refine r_aload_n hC dX3_swapStaves_7 0 rfl ?_
  refine gf_X3_29 hC (z_S hZ hq0) rfl dX3_swapStaves_8 ?_
  refine r_icmp_ge 66 hC dX3_swapStaves_11 (by decide) (fun h => ?_) (fun h => ?_)
  · have hf := if_T hf h
    refine r_iload_n hC dX3_swapStaves_66 3 rfl ?_
    exact r_iret hf hC (by decide) (by decide) dX3_swapStaves_67
  · have hf := if_F hf h
    refine r_aload_n hC dX3_swapStaves_14 0 rfl ?_
    refine r_iload_n hC dX3_swapStaves_15 1 rfl ?_
    refine r_iload hC dX3_swapStaves_16 4 rfl ?_
    refine r_callVI [] (fun r M1 h => c_X3_written (cx_st hC) hz hZ q0 v1 v4 _ hq0 r M1 h) hf cs_X3_51 hC (z_S hZ hq0) (q0 := (RX3, TX3, 4)) rfl rfl [.int v1, .int v4] rfl rfl rfl (by decide) (by decide) (Nat.le_of_ble_eq_true rfl) (by decide) (by decide) dX3_swapStaves_18 (fun x1 M2 hf => ?_)
    refine r_istore (L' := [(5, .int x1), (0, .ref (Z.1 (iSt q0))), (1, .int v1), (2, .int v2), (3, .int v3), (4, .int v4)]) hC dX3_swapStaves_21 (by decide) rfl ?_
    refine r_aload_n hC dX3_swapStaves_23 1 rfl ?_
    refine r_iload_n hC dX3_swapStaves_24 3 rfl ?_
    refine r_iload hC dX3_swapStaves_25 5 rfl ?_
    refine r_callVI [] (fun r M1 h => c_X3_written (cx_st hC) hz hZ q0 v2 v4 _ hq0 r M1 h) hf cs_X3_51 hC (z_S hZ hq0) (q0 := (RX3, TX3, 4)) rfl rfl [.int v2, .int v4] rfl rfl rfl (by decide) (by decide) (Nat.le_of_ble_eq_true rfl) (by decide) (by decide) dX3_swapStaves_27 (fun x3 M4 hf => ?_)
    refine r_istore (L' := [(6, .int x3), (5, .int x1), (0, .ref (Z.1 (iSt q0))), (1, .int v1), (2, .int v2), (3, .int v3), (4, .int v4)]) hC dX3_swapStaves_30 (by decide) rfl ?_
    refine r_iload hC dX3_swapStaves_32 1 rfl ?_
    refine r_iload hC dX3_swapStaves_34 0 rfl ?_
    refine r_icmp_eq 60 hC dX3_swapStaves_36 (by decide) (fun h => ?_) (fun h => ?_)
    · have hf := if_T hf h
      refine r_iinc (v := v4 + 1) (L' := [(4, .int (v4 + 1)), (6, .int x3), (5, .int x1), (0, .ref (Z.1 (iSt q0))), (1, .int v1), (2, .int v2), (3, .int v3)]) hC dX3_swapStaves_60 6 rfl rfl (by decide) rfl ?_
      refine r_goto 5 hC dX3_swapStaves_63 (by decide) ?_
      refine r_L [3, 4, 5, 6, 0] rfl ?_
      exact hk5 _ _ _ hf
    · have hf := if_F hf h
      refine r_iinc (v := v3 + 1) (L' := [(3, .int (v3 + 1)), (6, .int x3), (5, .int x1), (0, .ref (Z.1 (iSt q0))), (1, .int v1), (2, .int v2), (4, .int v4)]) hC dX3_swapStaves_39 5 rfl rfl (by decide) rfl ?_
      refine r_aload_n hC dX3_swapStaves_42 3 rfl ?_
      refine r_iload_n hC dX3_swapStaves_43 4 rfl ?_
      refine r_iload hC dX3_swapStaves_44 6 rfl ?_
      refine r_iload hC dX3_swapStaves_46 1 rfl ?_
      refine r_callVV [] (fun r M1 h => c_X3_put (cx_st hC) hz hZ q0 v1 v4 x3 _ hq0 r M1 h) hf cs_X3_66 hC (z_S hZ hq0) (q0 := (RX3, TX3, 4)) rfl rfl [.int v1, .int v4, .int x3] rfl rfl rfl (by decide) (by decide) (Nat.le_of_ble_eq_true rfl) (by decide) (by decide) dX3_swapStaves_48 (fun x5 M6 hf => ?_)
      refine r_aload_n hC dX3_swapStaves_51 3 rfl ?_
      refine r_iload_n hC dX3_swapStaves_52 5 rfl ?_
      refine r_iload hC dX3_swapStaves_53 6 rfl ?_
      refine r_iload hC dX3_swapStaves_55 2 rfl ?_
      refine r_callVV [] (fun r M1 h => c_X3_put (cx_st hC) hz hZ q0 v2 v4 x1 _ hq0 r M1 h) hf cs_X3_66 hC (z_S hZ hq0) (q0 := (RX3, TX3, 4)) rfl rfl [.int v2, .int v4, .int x1] rfl rfl rfl (by decide) (by decide) (Nat.le_of_ble_eq_true rfl) (by decide) (by decide) dX3_swapStaves_57 (fun x7 M8 hf => ?_)
      refine r_iinc (v := v4 + 1) (L' := [(4, .int (v4 + 1)), (3, .int (v3 + 1)), (6, .int x3), (5, .int x1), (0, .ref (Z.1 (iSt q0))), (1, .int v1), (2, .int v2)]) hC dX3_swapStaves_60 6 rfl rfl (by decide) rfl ?_
      refine r_goto 5 hC dX3_swapStaves_63 (by decide) ?_
      refine r_L [4, 5, 6, 1, 0] rfl ?_
      exact hk5 _ _ _ hf
set_option maxRecDepth 20000 in
theorem w_X3_swapStaves {X : XX} {G : GG} {Z : ZZ} (hC : Cx X G RX3 cX3_swapStaves (some .int) 3 0 0 7) (hz : ZOk G Z) (hZ : ZM Z) (q0 : Nat) (v1 : Int32) (v2 : Int32) (M : Mem) (hq0 : q0 < 18) {r : Int32} {M' : Mem} (hf : f_X3_swapStaves q0 v1 v2 M = some (r, M')) : V X G Z M 0 0 (QN X G (QcI G Z r M') 0 0) 0 [(0, .ref (Z.1 (iSt q0))), (1, .int v1), (2, .int v2)] [] := by
  unfold f_X3_swapStaves at hf
  refine r_iconst (v := 0) hC dX3_swapStaves_0 rfl ?_
  refine r_istore_n (L' := [(3, .int 0), (0, .ref (Z.1 (iSt q0))), (1, .int v1), (2, .int v2)]) hC dX3_swapStaves_1 (by decide) rfl ?_
  refine r_iconst (v := 0) hC dX3_swapStaves_2 rfl ?_
  refine r_istore (L' := [(4, .int 0), (3, .int 0), (0, .ref (Z.1 (iSt q0))), (1, .int v1), (2, .int v2)]) hC dX3_swapStaves_3 (by decide) rfl ?_
  refine r_L [2, 3, 4, 1, 0] rfl ?_
  exact lq2_ind (P := fun (u3 : Int32) (u4 : Int32) (M : Mem) => V X G Z M 0 0 (QN X G (QcI G Z r M') 0 0) 5 [(0, .ref (Z.1 (iSt q0))), (1, .int v1), (2, .int v2), (3, .int u3), (4, .int u4)] []) (fun kk hkk u3 u4 M hf => w_X3_swapStaves_b5 hC hz hZ q0 v1 v2 hq0 kk hkk u3 u4 M hf) _ _ _ _ hf
set_option maxRecDepth 20000 in
theorem c_X3_swapStaves {l : Launch} (hl : l.stackTraces = false) {G : GG} {Z : ZZ} (hz : ZOk G Z) (hZ : ZM Z) (q0 : Nat) (v1 : Int32) (v2 : Int32) (M : Mem) (hq0 : q0 < 18) (r : Int32) (M' : Mem) (hf : f_X3_swapStaves q0 v1 v2 M = some (r, M')) : CN (QcI G Z r M') l G Z yX3_swapStaves cX3_swapStaves 7 (some .int) 3 [.ref (Z.1 (iSt q0)), .int v1, .int v2] M :=
  CN.of [(0, .ref (Z.1 (iSt q0))), (1, .int v1), (2, .int v2)] hl (by decide +kernel) (Nat.le_of_ble_eq_true rfl) rfl (fun _ hC => w_X3_swapStaves hC hz hZ q0 v1 v2 M hq0 hf)
set_option maxRecDepth 20000 in
theorem w_X3_addStaff {X : XX} {G : GG} {Z : ZZ} (hC : Cx X G RX3 cX3_addStaff none 4 0 0 1) (hz : ZOk G Z) (hZ : ZM Z) (q0 : Nat) (M : Mem) (hq0 : q0 < 18) {r : Unit} {M' : Mem} (hf : f_X3_addStaff q0 M = some (r, M')) : V X G Z M 0 0 (QN X G (QcV G Z r M') 0 0) 0 [(0, .ref (Z.1 (iSt q0)))] [] := by
  unfold f_X3_addStaff at hf
  refine r_aload_n hC dX3_addStaff_0 0 rfl ?_
  refine gf_X3_25 hC (z_S hZ hq0) rfl dX3_addStaff_1 ?_
  refine r_iconst (v := 4) hC dX3_addStaff_4 rfl ?_
  refine r_icmp_ge 28 hC dX3_addStaff_5 (by decide) (fun h => ?_) (fun h => ?_)
  · have hf := if_T hf h
    exact r_vret hf hC (by decide) (by decide) dX3_addStaff_28
  · have hf := if_F hf h
    refine r_aload_n hC dX3_addStaff_8 0 rfl ?_
    refine r_dup hC dX3_addStaff_9 rfl ?_
    refine gf_X3_25 hC (z_S hZ hq0) rfl dX3_addStaff_10 ?_
    refine r_iconst (v := 1) hC dX3_addStaff_13 rfl ?_
    refine r_iadd hC dX3_addStaff_14 ?_
    refine pf_X3_25 hC hz (z_S hZ hq0) rfl dX3_addStaff_15 ?_
    refine r_aload_n hC dX3_addStaff_18 0 rfl ?_
    refine r_aload_n hC dX3_addStaff_19 0 rfl ?_
    refine gf_X3_25 hC (z_S hZ hq0) rfl dX3_addStaff_20 ?_
    refine r_iconst (v := 1) hC dX3_addStaff_23 rfl ?_
    refine r_isub hC dX3_addStaff_24 ?_
    refine r_callVV [] (fun r M1 h => c_X3_silenceStaff (cx_st hC) hz hZ q0 (((mw M (iSt q0) 2 ((M (iSt q0) 2) + 1)) (iSt q0) 2) - 1) _ hq0 r M1 h) hf cs_X3_70 hC (z_S hZ hq0) (q0 := (RX3, TX3, 4)) rfl rfl [.int (((mw M (iSt q0) 2 ((M (iSt q0) 2) + 1)) (iSt q0) 2) - 1)] rfl rfl rfl (by decide) (by decide) (Nat.le_of_ble_eq_true rfl) (by decide) (by decide) dX3_addStaff_25 (fun x1 M2 hf => ?_)
    exact r_vret hf hC (by decide) (by decide) dX3_addStaff_28
set_option maxRecDepth 20000 in
theorem c_X3_addStaff {l : Launch} (hl : l.stackTraces = false) {G : GG} {Z : ZZ} (hz : ZOk G Z) (hZ : ZM Z) (q0 : Nat) (M : Mem) (hq0 : q0 < 18) (r : Unit) (M' : Mem) (hf : f_X3_addStaff q0 M = some (r, M')) : CN (QcV G Z r M') l G Z yX3_addStaff cX3_addStaff 1 none 4 [.ref (Z.1 (iSt q0))] M :=
  CN.of [(0, .ref (Z.1 (iSt q0)))] hl (by decide +kernel) (Nat.le_of_ble_eq_true rfl) rfl (fun _ hC => w_X3_addStaff hC hz hZ q0 M hq0 hf)
set_option maxRecDepth 20000 in
theorem w_X3_dropStaff {X : XX} {G : GG} {Z : ZZ} (hC : Cx X G RX3 cX3_dropStaff none 0 0 0 1) (hz : ZOk G Z) (hZ : ZM Z) (q0 : Nat) (M : Mem) (hq0 : q0 < 18) {r : Unit} {M' : Mem} (hf : f_X3_dropStaff q0 M = some (r, M')) : V X G Z M 0 0 (QN X G (QcV G Z r M') 0 0) 0 [(0, .ref (Z.1 (iSt q0)))] [] := by
  unfold f_X3_dropStaff at hf
  refine r_aload_n hC dX3_dropStaff_0 0 rfl ?_
  refine gf_X3_25 hC (z_S hZ hq0) rfl dX3_dropStaff_1 ?_
  refine r_iconst (v := 1) hC dX3_dropStaff_4 rfl ?_
  refine r_icmp_le 18 hC dX3_dropStaff_5 (by decide) (fun h => ?_) (fun h => ?_)
  · have hf := if_T hf h
    exact r_vret hf hC (by decide) (by decide) dX3_dropStaff_18
  · have hf := if_F hf h
    refine r_aload_n hC dX3_dropStaff_8 0 rfl ?_
    refine r_dup hC dX3_dropStaff_9 rfl ?_
    refine gf_X3_25 hC (z_S hZ hq0) rfl dX3_dropStaff_10 ?_
    refine r_iconst (v := 1) hC dX3_dropStaff_13 rfl ?_
    refine r_isub hC dX3_dropStaff_14 ?_
    refine pf_X3_25 hC hz (z_S hZ hq0) rfl dX3_dropStaff_15 ?_
    exact r_vret hf hC (by decide) (by decide) dX3_dropStaff_18
set_option maxRecDepth 20000 in
theorem c_X3_dropStaff {l : Launch} (hl : l.stackTraces = false) {G : GG} {Z : ZZ} (hz : ZOk G Z) (hZ : ZM Z) (q0 : Nat) (M : Mem) (hq0 : q0 < 18) (r : Unit) (M' : Mem) (hf : f_X3_dropStaff q0 M = some (r, M')) : CN (QcV G Z r M') l G Z yX3_dropStaff cX3_dropStaff 1 none 0 [.ref (Z.1 (iSt q0))] M :=
  CN.of [(0, .ref (Z.1 (iSt q0)))] hl (by decide +kernel) (Nat.le_of_ble_eq_true rfl) rfl (fun _ hC => w_X3_dropStaff hC hz hZ q0 M hq0 hf)
set_option maxRecDepth 20000 in
theorem w_X3_openBeat_b62 {X : XX} {G : GG} {Z : ZZ} {r : Unit} {M' : Mem} (hC : Cx X G RX3 cX3_openBeat none 3 0 0 4) (hz : ZOk G Z) (hZ : ZM Z) (q0 : Nat) (v1 : Int32) (v2 : Int32) (hq0 : q0 < 18) (k22 : Int32 → Mem → Option (Unit × Mem)) (hk22 : ∀ (u2 : Int32) (M : Mem), k22 u2 M = some (r, M') → V X G Z M 0 0 (QN X G (QcV G Z r M') 0 0) 22 [(0, .ref (Z.1 (iSt q0))), (1, .int v1), (2, .int u2)] []) (M : Mem) (hf : f_X3_openBeat_b62 q0 v1 v2 k22 M = some (r, M')) : V X G Z M 0 0 (QN X G (QcV G Z r M') 0 0) 62 [(0, .ref (Z.1 (iSt q0))), (1, .int v1), (2, .int v2)] [] := by
  unfold f_X3_openBeat_b62 at hf
  refine r_aload_n hC dX3_openBeat_62 0 rfl ?_
  refine r_iload_n hC dX3_openBeat_63 2 rfl ?_
  refine r_iload_n hC dX3_openBeat_64 1 rfl ?_
  refine r_bipush (v := (-9)) hC dX3_openBeat_65 rfl ?_
  refine r_callVV [] (fun r M1 h => c_X3_put (cx_st hC) hz hZ q0 v2 v1 (-9) _ hq0 r M1 h) hf cs_X3_66 hC (z_S hZ hq0) (q0 := (RX3, TX3, 4)) rfl rfl [.int v2, .int v1, .int (-9)] rfl rfl rfl (by decide) (by decide) (Nat.le_of_ble_eq_true rfl) (by decide) (by decide) dX3_openBeat_67 (fun x5 M6 hf => ?_)
  refine r_iinc (v := v2 + 1) (L' := [(2, .int (v2 + 1)), (0, .ref (Z.1 (iSt q0))), (1, .int v1)]) hC dX3_openBeat_70 2 rfl rfl (by decide) rfl ?_
  refine r_goto 22 hC dX3_openBeat_73 (by decide) ?_
  refine r_L [1, 2, 0] rfl ?_
  exact hk22 _ _ hf
set_option maxRecDepth 20000 in
theorem w_X3_openBeat_b37 {X : XX} {G : GG} {Z : ZZ} {r : Unit} {M' : Mem} (hC : Cx X G RX3 cX3_openBeat none 3 0 0 4) (hz : ZOk G Z) (hZ : ZM Z) (q0 : Nat) (v1 : Int32) (v2 : Int32) (hq0 : q0 < 18) (k22 : Int32 → Mem → Option (Unit × Mem)) (hk22 : ∀ (u2 : Int32) (M : Mem), k22 u2 M = some (r, M') → V X G Z M 0 0 (QN X G (QcV G Z r M') 0 0) 22 [(0, .ref (Z.1 (iSt q0))), (1, .int v1), (2, .int u2)] []) (k37 : Int32 → Mem → Option (Unit × Mem)) (hk37 : ∀ (u3 : Int32) (M : Mem), k37 u3 M = some (r, M') → V X G Z M 0 0 (QN X G (QcV G Z r M') 0 0) 37 [(0, .ref (Z.1 (iSt q0))), (1, .int v1), (2, .int v2), (3, .int u3)] []) (v3 : Int32) (M : Mem) (hf : f_X3_openBeat_b37 q0 v1 v2 k22 k37 v3 M = some (r, M')) : V X G Z M 0 0 (QN X G (QcV G Z r M') 0 0) 37 [(0, .ref (Z.1 (iSt q0))), (1, .int v1), (2, .int v2), (3, .int v3)] [] := by
  unfold f_X3_openBeat_b37 at hf
  refine r_iload_n hC dX3_openBeat_37 3 rfl ?_
  refine r_iload_n hC dX3_openBeat_38 1 rfl ?_
  refine r_icmp_le 62 hC dX3_openBeat_39 (by decide) (fun h => ?_) (fun h => ?_)
  · have hf := if_T hf h
    refine r_L [0, 1, 2] rfl ?_
    exact w_X3_openBeat_b62 hC hz hZ q0 v1 v2 hq0 k22 hk22 _ hf
  · have hf := if_F hf h
    refine r_aload_n hC dX3_openBeat_42 0 rfl ?_
    refine r_iload_n hC dX3_openBeat_43 2 rfl ?_
    refine r_iload_n hC dX3_openBeat_44 3 rfl ?_
    refine r_aload_n hC dX3_openBeat_45 0 rfl ?_
    refine r_iload_n hC dX3_openBeat_46 2 rfl ?_
    refine r_iload_n hC dX3_openBeat_47 3 rfl ?_
    refine r_iconst (v := 1) hC dX3_openBeat_48 rfl ?_
    refine r_isub hC dX3_openBeat_49 ?_
    refine r_callVI [.int v3, .int v2, .ref (Z.1 (iSt q0))] (fun r M1 h => c_X3_written (cx_st hC) hz hZ q0 v2 (v3 - 1) _ hq0 r M1 h) hf cs_X3_51 hC (z_S hZ hq0) (q0 := (RX3, TX3, 4)) rfl rfl [.int v2, .int (v3 - 1)] rfl rfl rfl (by decide) (by decide) (Nat.le_of_ble_eq_true rfl) (by decide) (by decide) dX3_openBeat_50 (fun x1 M2 hf => ?_)
    refine r_callVV [] (fun r M1 h => c_X3_put (cx_st hC) hz hZ q0 v2 v3 x1 _ hq0 r M1 h) hf cs_X3_66 hC (z_S hZ hq0) (q0 := (RX3, TX3, 4)) rfl rfl [.int v2, .int v3, .int x1] rfl rfl rfl (by decide) (by decide) (Nat.le_of_ble_eq_true rfl) (by decide) (by decide) dX3_openBeat_53 (fun x3 M4 hf => ?_)
    refine r_iinc (v := v3 + (-1)) (L' := [(3, .int (v3 + (-1))), (0, .ref (Z.1 (iSt q0))), (1, .int v1), (2, .int v2)]) hC dX3_openBeat_56 3 rfl rfl (by decide) rfl ?_
    refine r_goto 37 hC dX3_openBeat_59 (by decide) ?_
    refine r_L [1, 2, 3, 0] rfl ?_
    exact hk37 _ _ hf
set_option maxRecDepth 20000 in
theorem w_X3_openBeat_b22 {X : XX} {G : GG} {Z : ZZ} {r : Unit} {M' : Mem} (hC : Cx X G RX3 cX3_openBeat none 3 0 0 4) (hz : ZOk G Z) (hZ : ZM Z) (q0 : Nat) (v1 : Int32) (hq0 : q0 < 18) (k22 : Int32 → Mem → Option (Unit × Mem)) (hk22 : ∀ (u2 : Int32) (M : Mem), k22 u2 M = some (r, M') → V X G Z M 0 0 (QN X G (QcV G Z r M') 0 0) 22 [(0, .ref (Z.1 (iSt q0))), (1, .int v1), (2, .int u2)] []) (v2 : Int32) (M : Mem) (hf : f_X3_openBeat_b22 q0 v1 k22 v2 M = some (r, M')) : V X G Z M 0 0 (QN X G (QcV G Z r M') 0 0) 22 [(0, .ref (Z.1 (iSt q0))), (1, .int v1), (2, .int v2)] [] := by
  unfold f_X3_openBeat_b22 at hf
  refine r_iload_n hC dX3_openBeat_22 2 rfl ?_
  refine r_aload_n hC dX3_openBeat_23 0 rfl ?_
  refine gf_X3_25 hC (z_S hZ hq0) rfl dX3_openBeat_24 ?_
  refine r_icmp_ge 76 hC dX3_openBeat_27 (by decide) (fun h => ?_) (fun h => ?_)
  · have hf := if_T hf h
    exact r_vret hf hC (by decide) (by decide) dX3_openBeat_76
  · have hf := if_F hf h
    refine r_aload_n hC dX3_openBeat_30 0 rfl ?_
    refine gf_X3_29 hC (z_S hZ hq0) rfl dX3_openBeat_31 ?_
    refine r_iconst (v := 1) hC dX3_openBeat_34 rfl ?_
    refine r_isub hC dX3_openBeat_35 ?_
    refine r_istore_n (L' := [(3, .int ((M (iSt q0) 3) - 1)), (0, .ref (Z.1 (iSt q0))), (1, .int v1), (2, .int v2)]) hC dX3_openBeat_36 (by decide) rfl ?_
    refine r_L [1, 2, 3, 0] rfl ?_
    exact lq1_ind (P := fun (u3 : Int32) (M : Mem) => V X G Z M 0 0 (QN X G (QcV G Z r M') 0 0) 37 [(0, .ref (Z.1 (iSt q0))), (1, .int v1), (2, .int v2), (3, .int u3)] []) (fun kk hkk u3 M hf => w_X3_openBeat_b37 hC hz hZ q0 v1 v2 hq0 k22 hk22 kk hkk u3 M hf) _ _ _ hf
set_option maxRecDepth 20000 in
theorem w_X3_openBeat {X : XX} {G : GG} {Z : ZZ} (hC : Cx X G RX3 cX3_openBeat none 3 0 0 4) (hz : ZOk G Z) (hZ : ZM Z) (q0 : Nat) (v1 : Int32) (M : Mem) (hq0 : q0 < 18) {r : Unit} {M' : Mem} (hf : f_X3_openBeat q0 v1 M = some (r, M')) : V X G Z M 0 0 (QN X G (QcV G Z r M') 0 0) 0 [(0, .ref (Z.1 (iSt q0))), (1, .int v1)] [] := by
  unfold f_X3_openBeat at hf
  refine r_aload_n hC dX3_openBeat_0 0 rfl ?_
  refine gf_X3_29 hC (z_S hZ hq0) rfl dX3_openBeat_1 ?_
  refine r_bipush (v := 16) hC dX3_openBeat_4 rfl ?_
  refine r_icmp_lt 10 hC dX3_openBeat_6 (by decide) (fun h => ?_) (fun h => ?_)
  · have hf := if_T hf h
    refine r_aload_n hC dX3_openBeat_10 0 rfl ?_
    refine r_dup hC dX3_openBeat_11 rfl ?_
    refine gf_X3_29 hC (z_S hZ hq0) rfl dX3_openBeat_12 ?_
    refine r_iconst (v := 1) hC dX3_openBeat_15 rfl ?_
    refine r_iadd hC dX3_openBeat_16 ?_
    refine pf_X3_29 hC hz (z_S hZ hq0) rfl dX3_openBeat_17 ?_
    refine r_iconst (v := 0) hC dX3_openBeat_20 rfl ?_
    refine r_istore_n (L' := [(2, .int 0), (0, .ref (Z.1 (iSt q0))), (1, .int v1)]) hC dX3_openBeat_21 (by decide) rfl ?_
    refine r_L [1, 2, 0] rfl ?_
    exact lq1_ind (P := fun (u2 : Int32) (M : Mem) => V X G Z M 0 0 (QN X G (QcV G Z r M') 0 0) 22 [(0, .ref (Z.1 (iSt q0))), (1, .int v1), (2, .int u2)] []) (fun kk hkk u2 M hf => w_X3_openBeat_b22 hC hz hZ q0 v1 hq0 kk hkk u2 M hf) _ _ _ hf
  · have hf := if_F hf h
    exact r_vret hf hC (by decide) (by decide) dX3_openBeat_9
set_option maxRecDepth 20000 in
theorem c_X3_openBeat {l : Launch} (hl : l.stackTraces = false) {G : GG} {Z : ZZ} (hz : ZOk G Z) (hZ : ZM Z) (q0 : Nat) (v1 : Int32) (M : Mem) (hq0 : q0 < 18) (r : Unit) (M' : Mem) (hf : f_X3_openBeat q0 v1 M = some (r, M')) : CN (QcV G Z r M') l G Z yX3_openBeat cX3_openBeat 4 none 3 [.ref (Z.1 (iSt q0)), .int v1] M :=
  CN.of [(0, .ref (Z.1 (iSt q0))), (1, .int v1)] hl (by decide +kernel) (Nat.le_of_ble_eq_true rfl) rfl (fun _ hC => w_X3_openBeat hC hz hZ q0 v1 M hq0 hf)
set_option maxRecDepth 20000 in
theorem w_X3_closeBeat_b21 {X : XX} {G : GG} {Z : ZZ} {r : Unit} {M' : Mem} (hC : Cx X G RX3 cX3_closeBeat none 3 0 0 4) (hz : ZOk G Z) (hZ : ZM Z) (q0 : Nat) (v1 : Int32) (v2 : Int32) (hq0 : q0 < 18) (k11 : Int32 → Mem → Option (Unit × Mem)) (hk11 : ∀ (u2 : Int32) (M : Mem), k11 u2 M = some (r, M') → V X G Z M 0 0 (QN X G (QcV G Z r M') 0 0) 11 [(0, .ref (Z.1 (iSt q0))), (1, .int v1), (2, .int u2)] []) (k21 : Int32 → Mem → Option (Unit × Mem)) (hk21 : ∀ (u3 : Int32) (M : Mem), k21 u3 M = some (r, M') → V X G Z M 0 0 (QN X G (QcV G Z r M') 0 0) 21 [(0, .ref (Z.1 (iSt q0))), (1, .int v1), (2, .int v2), (3, .int u3)] []) (v3 : Int32) (M : Mem) (hf : f_X3_closeBeat_b21 q0 v1 v2 k11 k21 v3 M = some (r, M')) : V X G Z M 0 0 (QN X G (QcV G Z r M') 0 0) 21 [(0, .ref (Z.1 (iSt q0))), (1, .int v1), (2, .int v2), (3, .int v3)] [] := by
  unfold f_X3_closeBeat_b21 at hf
  refine r_iload_n hC dX3_closeBeat_21 3 rfl ?_
  refine r_aload_n hC dX3_closeBeat_22 0 rfl ?_
  refine gf_X3_29 hC (z_S hZ hq0) rfl dX3_closeBeat_23 ?_
  refine r_iconst (v := 1) hC dX3_closeBeat_26 rfl ?_
  refine r_isub hC dX3_closeBeat_27 ?_
  refine r_icmp_ge 51 hC dX3_closeBeat_28 (by decide) (fun h => ?_) (fun h => ?_)
  · have hf := if_T hf h
    refine r_iinc (v := v2 + 1) (L' := [(2, .int (v2 + 1)), (0, .ref (Z.1 (iSt q0))), (1, .int v1), (3, .int v3)]) hC dX3_closeBeat_51 2 rfl rfl (by decide) rfl ?_
    refine r_goto 11 hC dX3_closeBeat_54 (by decide) ?_
    refine r_L [1, 2, 0] rfl ?_
    exact hk11 _ _ hf
  · have hf := if_F hf h
    refine r_aload_n hC dX3_closeBeat_31 0 rfl ?_
    refine r_iload_n hC dX3_closeBeat_32 2 rfl ?_
    refine r_iload_n hC dX3_closeBeat_33 3 rfl ?_
    refine r_aload_n hC dX3_closeBeat_34 0 rfl ?_
    refine r_iload_n hC dX3_closeBeat_35 2 rfl ?_
    refine r_iload_n hC dX3_closeBeat_36 3 rfl ?_
    refine r_iconst (v := 1) hC dX3_closeBeat_37 rfl ?_
    refine r_iadd hC dX3_closeBeat_38 ?_
    refine r_callVI [.int v3, .int v2, .ref (Z.1 (iSt q0))] (fun r M1 h => c_X3_written (cx_st hC) hz hZ q0 v2 (v3 + 1) _ hq0 r M1 h) hf cs_X3_51 hC (z_S hZ hq0) (q0 := (RX3, TX3, 4)) rfl rfl [.int v2, .int (v3 + 1)] rfl rfl rfl (by decide) (by decide) (Nat.le_of_ble_eq_true rfl) (by decide) (by decide) dX3_closeBeat_39 (fun x1 M2 hf => ?_)
    refine r_callVV [] (fun r M1 h => c_X3_put (cx_st hC) hz hZ q0 v2 v3 x1 _ hq0 r M1 h) hf cs_X3_66 hC (z_S hZ hq0) (q0 := (RX3, TX3, 4)) rfl rfl [.int v2, .int v3, .int x1] rfl rfl rfl (by decide) (by decide) (Nat.le_of_ble_eq_true rfl) (by decide) (by decide) dX3_closeBeat_42 (fun x3 M4 hf => ?_)
    refine r_iinc (v := v3 + 1) (L' := [(3, .int (v3 + 1)), (0, .ref (Z.1 (iSt q0))), (1, .int v1), (2, .int v2)]) hC dX3_closeBeat_45 3 rfl rfl (by decide) rfl ?_
    refine r_goto 21 hC dX3_closeBeat_48 (by decide) ?_
    refine r_L [1, 2, 3, 0] rfl ?_
    exact hk21 _ _ hf
set_option maxRecDepth 20000 in
theorem w_X3_closeBeat_b57 {X : XX} {G : GG} {Z : ZZ} {r : Unit} {M' : Mem} (hC : Cx X G RX3 cX3_closeBeat none 3 0 0 4) (hz : ZOk G Z) (hZ : ZM Z) (q0 : Nat) (hq0 : q0 < 18) (M : Mem) (hf : f_X3_closeBeat_b57 q0 M = some (r, M')) : V X G Z M 0 0 (QN X G (QcV G Z r M') 0 0) 57 [(0, .ref (Z.1 (iSt q0)))] [] := by
  unfold f_X3_closeBeat_b57 at hf
  refine r_aload_n hC dX3_closeBeat_57 0 rfl ?_
  refine r_dup hC dX3_closeBeat_58 rfl ?_
  refine gf_X3_29 hC (z_S hZ hq0) rfl dX3_closeBeat_59 ?_
  refine r_iconst (v := 1) hC dX3_closeBeat_62 rfl ?_
  refine r_isub hC dX3_closeBeat_63 ?_
  refine pf_X3_29 hC hz (z_S hZ hq0) rfl dX3_closeBeat_64 ?_
  exact r_vret hf hC (by decide) (by decide) dX3_closeBeat_67
set_option maxRecDepth 20000 in
theorem w_X3_closeBeat_b11 {X : XX} {G : GG} {Z : ZZ} {r : Unit} {M' : Mem} (hC : Cx X G RX3 cX3_closeBeat none 3 0 0 4) (hz : ZOk G Z) (hZ : ZM Z) (q0 : Nat) (v1 : Int32) (hq0 : q0 < 18) (k11 : Int32 → Mem → Option (Unit × Mem)) (hk11 : ∀ (u2 : Int32) (M : Mem), k11 u2 M = some (r, M') → V X G Z M 0 0 (QN X G (QcV G Z r M') 0 0) 11 [(0, .ref (Z.1 (iSt q0))), (1, .int v1), (2, .int u2)] []) (v2 : Int32) (M : Mem) (hf : f_X3_closeBeat_b11 q0 v1 k11 v2 M = some (r, M')) : V X G Z M 0 0 (QN X G (QcV G Z r M') 0 0) 11 [(0, .ref (Z.1 (iSt q0))), (1, .int v1), (2, .int v2)] [] := by
  unfold f_X3_closeBeat_b11 at hf
  refine r_iload_n hC dX3_closeBeat_11 2 rfl ?_
  refine r_aload_n hC dX3_closeBeat_12 0 rfl ?_
  refine gf_X3_25 hC (z_S hZ hq0) rfl dX3_closeBeat_13 ?_
  refine r_icmp_ge 57 hC dX3_closeBeat_16 (by decide) (fun h => ?_) (fun h => ?_)
  · have hf := if_T hf h
    refine r_L [0] rfl ?_
    exact w_X3_closeBeat_b57 hC hz hZ q0 hq0 _ hf
  · have hf := if_F hf h
    refine r_iload_n hC dX3_closeBeat_19 1 rfl ?_
    refine r_istore_n (L' := [(3, .int v1), (0, .ref (Z.1 (iSt q0))), (1, .int v1), (2, .int v2)]) hC dX3_closeBeat_20 (by decide) rfl ?_
    refine r_L [1, 2, 3, 0] rfl ?_
    exact lq1_ind (P := fun (u3 : Int32) (M : Mem) => V X G Z M 0 0 (QN X G (QcV G Z r M') 0 0) 21 [(0, .ref (Z.1 (iSt q0))), (1, .int v1), (2, .int v2), (3, .int u3)] []) (fun kk hkk u3 M hf => w_X3_closeBeat_b21 hC hz hZ q0 v1 v2 hq0 k11 hk11 kk hkk u3 M hf) _ _ _ hf
set_option maxRecDepth 20000 in
theorem w_X3_closeBeat {X : XX} {G : GG} {Z : ZZ} (hC : Cx X G RX3 cX3_closeBeat none 3 0 0 4) (hz : ZOk G Z) (hZ : ZM Z) (q0 : Nat) (v1 : Int32) (M : Mem) (hq0 : q0 < 18) {r : Unit} {M' : Mem} (hf : f_X3_closeBeat q0 v1 M = some (r, M')) : V X G Z M 0 0 (QN X G (QcV G Z r M') 0 0) 0 [(0, .ref (Z.1 (iSt q0))), (1, .int v1)] [] := by
  unfold f_X3_closeBeat at hf
  refine r_aload_n hC dX3_closeBeat_0 0 rfl ?_
  refine gf_X3_29 hC (z_S hZ hq0) rfl dX3_closeBeat_1 ?_
  refine r_iconst (v := 1) hC dX3_closeBeat_4 rfl ?_
  refine r_icmp_gt 9 hC dX3_closeBeat_5 (by decide) (fun h => ?_) (fun h => ?_)
  · have hf := if_T hf h
    refine r_iconst (v := 0) hC dX3_closeBeat_9 rfl ?_
    refine r_istore_n (L' := [(2, .int 0), (0, .ref (Z.1 (iSt q0))), (1, .int v1)]) hC dX3_closeBeat_10 (by decide) rfl ?_
    refine r_L [1, 2, 0] rfl ?_
    exact lq1_ind (P := fun (u2 : Int32) (M : Mem) => V X G Z M 0 0 (QN X G (QcV G Z r M') 0 0) 11 [(0, .ref (Z.1 (iSt q0))), (1, .int v1), (2, .int u2)] []) (fun kk hkk u2 M hf => w_X3_closeBeat_b11 hC hz hZ q0 v1 hq0 kk hkk u2 M hf) _ _ _ hf
  · have hf := if_F hf h
    exact r_vret hf hC (by decide) (by decide) dX3_closeBeat_8
set_option maxRecDepth 20000 in
theorem c_X3_closeBeat {l : Launch} (hl : l.stackTraces = false) {G : GG} {Z : ZZ} (hz : ZOk G Z) (hZ : ZM Z) (q0 : Nat) (v1 : Int32) (M : Mem) (hq0 : q0 < 18) (r : Unit) (M' : Mem) (hf : f_X3_closeBeat q0 v1 M = some (r, M')) : CN (QcV G Z r M') l G Z yX3_closeBeat cX3_closeBeat 4 none 3 [.ref (Z.1 (iSt q0)), .int v1] M :=
  CN.of [(0, .ref (Z.1 (iSt q0))), (1, .int v1)] hl (by decide +kernel) (Nat.le_of_ble_eq_true rfl) rfl (fun _ hC => w_X3_closeBeat hC hz hZ q0 v1 M hq0 hf)
set_option maxRecDepth 20000 in
theorem w_X3_dropLooseHolds_b12 {X : XX} {G : GG} {Z : ZZ} {r : Unit} {M' : Mem} (hC : Cx X G RX3 cX3_dropLooseHolds none 3 0 0 3) (hz : ZOk G Z) (hZ : ZM Z) (q0 : Nat) (v1 : Int32) (hq0 : q0 < 18) (k2 : Int32 → Mem → Option (Unit × Mem)) (hk2 : ∀ (u1 : Int32) (M : Mem), k2 u1 M = some (r, M') → V X G Z M 0 0 (QN X G (QcV G Z r M') 0 0) 2 [(0, .ref (Z.1 (iSt q0))), (1, .int u1)] []) (k12 : Int32 → Mem → Option (Unit × Mem)) (hk12 : ∀ (u2 : Int32) (M : Mem), k12 u2 M = some (r, M') → V X G Z M 0 0 (QN X G (QcV G Z r M') 0 0) 12 [(0, .ref (Z.1 (iSt q0))), (1, .int v1), (2, .int u2)] []) (v2 : Int32) (M : Mem) (hf : f_X3_dropLooseHolds_b12 q0 v1 k2 k12 v2 M = some (r, M')) : V X G Z M 0 0 (QN X G (QcV G Z r M') 0 0) 12 [(0, .ref (Z.1 (iSt q0))), (1, .int v1), (2, .int v2)] [] := by
  unfold f_X3_dropLooseHolds_b12 at hf
  refine r_iload_n hC dX3_dropLooseHolds_12 2 rfl ?_
  refine r_aload_n hC dX3_dropLooseHolds_13 0 rfl ?_
  refine gf_X3_29 hC (z_S hZ hq0) rfl dX3_dropLooseHolds_14 ?_
  refine r_icmp_ge 54 hC dX3_dropLooseHolds_17 (by decide) (fun h => ?_) (fun h => ?_)
  · have hf := if_T hf h
    refine r_iinc (v := v1 + 1) (L' := [(1, .int (v1 + 1)), (0, .ref (Z.1 (iSt q0))), (2, .int v2)]) hC dX3_dropLooseHolds_54 1 rfl rfl (by decide) rfl ?_
    refine r_goto 2 hC dX3_dropLooseHolds_57 (by decide) ?_
    refine r_L [1, 0] rfl ?_
    exact hk2 _ _ hf
  · have hf := if_F hf h
    refine r_aload_n hC dX3_dropLooseHolds_20 0 rfl ?_
    refine r_iload_n hC dX3_dropLooseHolds_21 1 rfl ?_
    refine r_iload_n hC dX3_dropLooseHolds_22 2 rfl ?_
    refine r_callVI [] (fun r M1 h => c_X3_written (cx_st hC) hz hZ q0 v1 v2 _ hq0 r M1 h) hf cs_X3_51 hC (z_S hZ hq0) (q0 := (RX3, TX3, 4)) rfl rfl [.int v1, .int v2] rfl rfl rfl (by decide) (by decide) (Nat.le_of_ble_eq_true rfl) (by decide) (by decide) dX3_dropLooseHolds_23 (fun x1 M2 hf => ?_)
    refine r_bipush (v := 99) hC dX3_dropLooseHolds_26 rfl ?_
    refine r_icmp_ne 48 hC dX3_dropLooseHolds_28 (by decide) (fun h => ?_) (fun h => ?_)
    · have hf := if_F hf h
      refine r_iinc (v := v2 + 1) (L' := [(2, .int (v2 + 1)), (0, .ref (Z.1 (iSt q0))), (1, .int v1)]) hC dX3_dropLooseHolds_48 2 rfl rfl (by decide) rfl ?_
      refine r_goto 12 hC dX3_dropLooseHolds_51 (by decide) ?_
      refine r_L [1, 2, 0] rfl ?_
      exact hk12 _ _ hf
    · have hf := if_T hf h
      refine r_aload_n hC dX3_dropLooseHolds_31 0 rfl ?_
      refine r_iload_n hC dX3_dropLooseHolds_32 1 rfl ?_
      refine r_iload_n hC dX3_dropLooseHolds_33 2 rfl ?_
      refine r_callVI [] (fun r M1 h => c_X3_allowsHold (cx_st hC) hz hZ q0 v1 v2 _ hq0 r M1 h) hf cs_X3_74 hC (z_S hZ hq0) (q0 := (RX3, TX3, 4)) rfl rfl [.int v1, .int v2] rfl rfl rfl (by decide) (by decide) (Nat.le_of_ble_eq_true rfl) (by decide) (by decide) dX3_dropLooseHolds_34 (fun x3 M4 hf => ?_)
      refine r_if_ne 48 hC dX3_dropLooseHolds_37 (by decide) (fun h => ?_) (fun h => ?_)
      · have hf := if_F hf h
        refine r_iinc (v := v2 + 1) (L' := [(2, .int (v2 + 1)), (0, .ref (Z.1 (iSt q0))), (1, .int v1)]) hC dX3_dropLooseHolds_48 2 rfl rfl (by decide) rfl ?_
        refine r_goto 12 hC dX3_dropLooseHolds_51 (by decide) ?_
        refine r_L [1, 2, 0] rfl ?_
        exact hk12 _ _ hf
      · have hf := if_T hf h
        refine r_aload_n hC dX3_dropLooseHolds_40 0 rfl ?_
        refine r_iload_n hC dX3_dropLooseHolds_41 1 rfl ?_
        refine r_iload_n hC dX3_dropLooseHolds_42 2 rfl ?_
        refine r_bipush (v := (-9)) hC dX3_dropLooseHolds_43 rfl ?_
        refine r_callVV [] (fun r M1 h => c_X3_put (cx_st hC) hz hZ q0 v1 v2 (-9) _ hq0 r M1 h) hf cs_X3_66 hC (z_S hZ hq0) (q0 := (RX3, TX3, 4)) rfl rfl [.int v1, .int v2, .int (-9)] rfl rfl rfl (by decide) (by decide) (Nat.le_of_ble_eq_true rfl) (by decide) (by decide) dX3_dropLooseHolds_45 (fun x5 M6 hf => ?_)
        refine r_iinc (v := v2 + 1) (L' := [(2, .int (v2 + 1)), (0, .ref (Z.1 (iSt q0))), (1, .int v1)]) hC dX3_dropLooseHolds_48 2 rfl rfl (by decide) rfl ?_
        refine r_goto 12 hC dX3_dropLooseHolds_51 (by decide) ?_
        refine r_L [1, 2, 0] rfl ?_
        exact hk12 _ _ hf
set_option maxRecDepth 20000 in
theorem w_X3_dropLooseHolds_b2 {X : XX} {G : GG} {Z : ZZ} {r : Unit} {M' : Mem} (hC : Cx X G RX3 cX3_dropLooseHolds none 3 0 0 3) (hz : ZOk G Z) (hZ : ZM Z) (q0 : Nat) (hq0 : q0 < 18) (k2 : Int32 → Mem → Option (Unit × Mem)) (hk2 : ∀ (u1 : Int32) (M : Mem), k2 u1 M = some (r, M') → V X G Z M 0 0 (QN X G (QcV G Z r M') 0 0) 2 [(0, .ref (Z.1 (iSt q0))), (1, .int u1)] []) (v1 : Int32) (M : Mem) (hf : f_X3_dropLooseHolds_b2 q0 k2 v1 M = some (r, M')) : V X G Z M 0 0 (QN X G (QcV G Z r M') 0 0) 2 [(0, .ref (Z.1 (iSt q0))), (1, .int v1)] [] := by
  unfold f_X3_dropLooseHolds_b2 at hf
  refine r_iload_n hC dX3_dropLooseHolds_2 1 rfl ?_
  refine r_aload_n hC dX3_dropLooseHolds_3 0 rfl ?_
  refine gf_X3_25 hC (z_S hZ hq0) rfl dX3_dropLooseHolds_4 ?_
  refine r_icmp_ge 60 hC dX3_dropLooseHolds_7 (by decide) (fun h => ?_) (fun h => ?_)
  · have hf := if_T hf h
    exact r_vret hf hC (by decide) (by decide) dX3_dropLooseHolds_60
  · have hf := if_F hf h
    refine r_iconst (v := 0) hC dX3_dropLooseHolds_10 rfl ?_
    refine r_istore_n (L' := [(2, .int 0), (0, .ref (Z.1 (iSt q0))), (1, .int v1)]) hC dX3_dropLooseHolds_11 (by decide) rfl ?_
    refine r_L [1, 2, 0] rfl ?_
    exact lq1_ind (P := fun (u2 : Int32) (M : Mem) => V X G Z M 0 0 (QN X G (QcV G Z r M') 0 0) 12 [(0, .ref (Z.1 (iSt q0))), (1, .int v1), (2, .int u2)] []) (fun kk hkk u2 M hf => w_X3_dropLooseHolds_b12 hC hz hZ q0 v1 hq0 k2 hk2 kk hkk u2 M hf) _ _ _ hf
set_option maxRecDepth 20000 in
theorem w_X3_dropLooseHolds {X : XX} {G : GG} {Z : ZZ} (hC : Cx X G RX3 cX3_dropLooseHolds none 3 0 0 3) (hz : ZOk G Z) (hZ : ZM Z) (q0 : Nat) (M : Mem) (hq0 : q0 < 18) {r : Unit} {M' : Mem} (hf : f_X3_dropLooseHolds q0 M = some (r, M')) : V X G Z M 0 0 (QN X G (QcV G Z r M') 0 0) 0 [(0, .ref (Z.1 (iSt q0)))] [] := by
  unfold f_X3_dropLooseHolds at hf
  refine r_iconst (v := 0) hC dX3_dropLooseHolds_0 rfl ?_
  refine r_istore_n (L' := [(1, .int 0), (0, .ref (Z.1 (iSt q0)))]) hC dX3_dropLooseHolds_1 (by decide) rfl ?_
  refine r_L [1, 0] rfl ?_
  exact lq1_ind (P := fun (u1 : Int32) (M : Mem) => V X G Z M 0 0 (QN X G (QcV G Z r M') 0 0) 2 [(0, .ref (Z.1 (iSt q0))), (1, .int u1)] []) (fun kk hkk u1 M hf => w_X3_dropLooseHolds_b2 hC hz hZ q0 hq0 kk hkk u1 M hf) _ _ _ hf
set_option maxRecDepth 20000 in
theorem c_X3_dropLooseHolds {l : Launch} (hl : l.stackTraces = false) {G : GG} {Z : ZZ} (hz : ZOk G Z) (hZ : ZM Z) (q0 : Nat) (M : Mem) (hq0 : q0 < 18) (r : Unit) (M' : Mem) (hf : f_X3_dropLooseHolds q0 M = some (r, M')) : CN (QcV G Z r M') l G Z yX3_dropLooseHolds cX3_dropLooseHolds 3 none 3 [.ref (Z.1 (iSt q0))] M :=
  CN.of [(0, .ref (Z.1 (iSt q0)))] hl (by decide +kernel) (Nat.le_of_ble_eq_true rfl) rfl (fun _ hC => w_X3_dropLooseHolds hC hz hZ q0 M hq0 hf)
set_option maxRecDepth 20000 in
theorem w_X4_isFull {X : XX} {G : GG} {Z : ZZ} (hC : Cx X G RX4 cX4_isFull (some .boolean) 0 0 0 1) (hz : ZOk G Z) (hZ : ZM Z)  (M : Mem)  {r : Int32} {M' : Mem} (hf : f_X4_isFull  M = some (r, M')) : V X G Z M 0 0 (QN X G (QcI G Z r M') 0 0) 0 [(0, .ref (Z.1 1))] [] := by
  unfold f_X4_isFull at hf
  refine r_aload_n hC dX4_isFull_0 0 rfl ?_
  refine gf_X4_15 hC (z_1 hZ 1 (by decide) rfl) rfl dX4_isFull_1 ?_
  refine r_sipush (v := 140) hC dX4_isFull_4 rfl ?_
  refine r_icmp_lt 14 hC dX4_isFull_7 (by decide) (fun h => ?_) (fun h => ?_)
  · have hf := if_T hf h
    refine r_iconst (v := 0) hC dX4_isFull_14 rfl ?_
    exact r_zret hf hC rfl rfl (by decide) (by decide) dX4_isFull_15
  · have hf := if_F hf h
    refine r_iconst (v := 1) hC dX4_isFull_10 rfl ?_
    refine r_goto 15 hC dX4_isFull_11 (by decide) ?_
    exact r_zret hf hC rfl rfl (by decide) (by decide) dX4_isFull_15
set_option maxRecDepth 20000 in
theorem c_X4_isFull {l : Launch} (hl : l.stackTraces = false) {G : GG} {Z : ZZ} (hz : ZOk G Z) (hZ : ZM Z)  (M : Mem)  (r : Int32) (M' : Mem) (hf : f_X4_isFull  M = some (r, M')) : CN (QcI G Z r M') l G Z yX4_isFull cX4_isFull 1 (some .boolean) 0 [.ref (Z.1 1)] M :=
  CN.of [(0, .ref (Z.1 1))] hl (by decide +kernel) (Nat.le_of_ble_eq_true rfl) rfl (fun _ hC => w_X4_isFull hC hz hZ  M  hf)
set_option maxRecDepth 20000 in
theorem w_X4_add {X : XX} {G : GG} {Z : ZZ} (hC : Cx X G RX4 cX4_add (some .int) 1 0 0 2) (hz : ZOk G Z) (hZ : ZM Z) (v1 : Int32) (M : Mem)  {r : Int32} {M' : Mem} (hf : f_X4_add v1 M = some (r, M')) : V X G Z M 0 0 (QN X G (QcI G Z r M') 0 0) 0 [(0, .ref (Z.1 1)), (1, .int v1)] [] := by
  unfold f_X4_add at hf
  refine r_aload_n hC dX4_add_0 0 rfl ?_
  refine r_callVI [] (fun r M1 h => c_X4_isFull (cx_st hC) hz hZ  _  r M1 h) hf cs_X4_19 hC (z_1 hZ 1 (by decide) rfl) (q0 := (RX4, TX4, 3)) rfl rfl [] rfl rfl rfl (by decide) (by decide) (Nat.le_of_ble_eq_true rfl) (by decide) (by decide) dX4_add_1 (fun x1 M2 hf => ?_)
  refine r_if_ne 27 hC dX4_add_4 (by decide) (fun h => ?_) (fun h => ?_)
  · have hf := if_F hf h
    refine r_aload_n hC dX4_add_27 0 rfl ?_
    refine gf_X4_15 hC (z_1 hZ 1 (by decide) rfl) rfl dX4_add_28 ?_
    exact r_iret hf hC (by decide) (by decide) dX4_add_31
  · have hf := if_T hf h
    refine r_aload_n hC dX4_add_7 0 rfl ?_
    refine gf_X4_9 hC (z_1 hZ 1 (by decide) rfl) rfl dX4_add_8 ?_
    refine r_aload_n hC dX4_add_11 0 rfl ?_
    refine gf_X4_15 hC (z_1 hZ 1 (by decide) rfl) rfl dX4_add_12 ?_
    refine r_iload_n hC dX4_add_15 1 rfl ?_
    have hin := if_K hf
    have hf := if_V hf
    refine r_cast hC hz (z_1 hZ 2 (by decide) rfl) (inb_vp hin) dX4_add_16 ?_
    refine r_aload_n hC dX4_add_17 0 rfl ?_
    refine r_dup hC dX4_add_18 rfl ?_
    refine gf_X4_15 hC (z_1 hZ 1 (by decide) rfl) rfl dX4_add_19 ?_
    refine r_iconst (v := 1) hC dX4_add_22 rfl ?_
    refine r_iadd hC dX4_add_23 ?_
    refine pf_X4_15 hC hz (z_1 hZ 1 (by decide) rfl) rfl dX4_add_24 ?_
    refine r_aload_n hC dX4_add_27 0 rfl ?_
    refine gf_X4_15 hC (z_1 hZ 1 (by decide) rfl) rfl dX4_add_28 ?_
    exact r_iret hf hC (by decide) (by decide) dX4_add_31
set_option maxRecDepth 20000 in
theorem c_X4_add {l : Launch} (hl : l.stackTraces = false) {G : GG} {Z : ZZ} (hz : ZOk G Z) (hZ : ZM Z) (v1 : Int32) (M : Mem)  (r : Int32) (M' : Mem) (hf : f_X4_add v1 M = some (r, M')) : CN (QcI G Z r M') l G Z yX4_add cX4_add 2 (some .int) 1 [.ref (Z.1 1), .int v1] M :=
  CN.of [(0, .ref (Z.1 1)), (1, .int v1)] hl (by decide +kernel) (Nat.le_of_ble_eq_true rfl) rfl (fun _ hC => w_X4_add hC hz hZ v1 M  hf)
set_option maxRecDepth 20000 in
theorem w_X4_empty {X : XX} {G : GG} {Z : ZZ} (hC : Cx X G RX4 cX4_empty (some .int) 0 0 0 2) (hz : ZOk G Z) (hZ : ZM Z)  (M : Mem)  {r : Int32} {M' : Mem} (hf : f_X4_empty  M = some (r, M')) : V X G Z M 0 0 (QN X G (QcI G Z r M') 0 0) 0 [(0, .ref (Z.1 1))] [] := by
  unfold f_X4_empty at hf
  refine r_aload_n hC dX4_empty_0 0 rfl ?_
  refine gf_X4_15 hC (z_1 hZ 1 (by decide) rfl) rfl dX4_empty_1 ?_
  refine r_istore_n (L' := [(1, .int (M 1 1)), (0, .ref (Z.1 1))]) hC dX4_empty_4 (by decide) rfl ?_
  refine r_aload_n hC dX4_empty_5 1 rfl ?_
  refine r_iconst (v := 0) hC dX4_empty_6 rfl ?_
  refine pf_X4_15 hC hz (z_1 hZ 1 (by decide) rfl) rfl dX4_empty_7 ?_
  refine r_iload_n hC dX4_empty_10 0 rfl ?_
  exact r_iret hf hC (by decide) (by decide) dX4_empty_11
set_option maxRecDepth 20000 in
theorem c_X4_empty {l : Launch} (hl : l.stackTraces = false) {G : GG} {Z : ZZ} (hz : ZOk G Z) (hZ : ZM Z)  (M : Mem)  (r : Int32) (M' : Mem) (hf : f_X4_empty  M = some (r, M')) : CN (QcI G Z r M') l G Z yX4_empty cX4_empty 2 (some .int) 0 [.ref (Z.1 1)] M :=
  CN.of [(0, .ref (Z.1 1))] hl (by decide +kernel) (Nat.le_of_ble_eq_true rfl) rfl (fun _ hC => w_X4_empty hC hz hZ  M  hf)
set_option maxRecDepth 20000 in
theorem w_X4_signAt {X : XX} {G : GG} {Z : ZZ} (hC : Cx X G RX4 cX4_signAt (some .int) 0 0 0 2) (hz : ZOk G Z) (hZ : ZM Z) (v1 : Int32) (M : Mem)  {r : Int32} {M' : Mem} (hf : f_X4_signAt v1 M = some (r, M')) : V X G Z M 0 0 (QN X G (QcI G Z r M') 0 0) 0 [(0, .ref (Z.1 1)), (1, .int v1)] [] := by
  unfold f_X4_signAt at hf
  refine r_iload_n hC dX4_signAt_0 1 rfl ?_
  refine r_if_lt 21 hC dX4_signAt_1 (by decide) (fun h => ?_) (fun h => ?_)
  · have hf := if_T hf h
    refine r_iconst (v := (-1)) hC dX4_signAt_21 rfl ?_
    exact r_iret hf hC (by decide) (by decide) dX4_signAt_22
  · have hf := if_F hf h
    refine r_iload_n hC dX4_signAt_4 1 rfl ?_
    refine r_aload_n hC dX4_signAt_5 0 rfl ?_
    refine gf_X4_15 hC (z_1 hZ 1 (by decide) rfl) rfl dX4_signAt_6 ?_
    refine r_icmp_ge 21 hC dX4_signAt_9 (by decide) (fun h => ?_) (fun h => ?_)
    · have hf := if_T hf h
      refine r_iconst (v := (-1)) hC dX4_signAt_21 rfl ?_
      exact r_iret hf hC (by decide) (by decide) dX4_signAt_22
    · have hf := if_F hf h
      refine r_aload_n hC dX4_signAt_12 0 rfl ?_
      refine gf_X4_9 hC (z_1 hZ 1 (by decide) rfl) rfl dX4_signAt_13 ?_
      refine r_iload_n hC dX4_signAt_16 1 rfl ?_
      have hin := if_K hf
      have hf := if_V hf
      refine r_cald hC (z_1 hZ 2 (by decide) rfl) (inb_vp hin) dX4_signAt_17 ?_
      refine r_goto 22 hC dX4_signAt_18 (by decide) ?_
      exact r_iret hf hC (by decide) (by decide) dX4_signAt_22
set_option maxRecDepth 20000 in
theorem c_X4_signAt {l : Launch} (hl : l.stackTraces = false) {G : GG} {Z : ZZ} (hz : ZOk G Z) (hZ : ZM Z) (v1 : Int32) (M : Mem)  (r : Int32) (M' : Mem) (hf : f_X4_signAt v1 M = some (r, M')) : CN (QcI G Z r M') l G Z yX4_signAt cX4_signAt 2 (some .int) 0 [.ref (Z.1 1), .int v1] M :=
  CN.of [(0, .ref (Z.1 1)), (1, .int v1)] hl (by decide +kernel) (Nat.le_of_ble_eq_true rfl) rfl (fun _ hC => w_X4_signAt hC hz hZ v1 M  hf)
set_option maxRecDepth 20000 in
theorem w_X4_digitAt {X : XX} {G : GG} {Z : ZZ} (hC : Cx X G RX4 cX4_digitAt (some .int) 1 0 0 3) (hz : ZOk G Z) (hZ : ZM Z) (v1 : Int32) (M : Mem)  {r : Int32} {M' : Mem} (hf : f_X4_digitAt v1 M = some (r, M')) : V X G Z M 0 0 (QN X G (QcI G Z r M') 0 0) 0 [(0, .ref (Z.1 1)), (1, .int v1)] [] := by
  unfold f_X4_digitAt at hf
  refine r_aload_n hC dX4_digitAt_0 0 rfl ?_
  refine r_iload_n hC dX4_digitAt_1 1 rfl ?_
  refine r_callVI [] (fun r M1 h => c_X4_signAt (cx_st hC) hz hZ v1 _  r M1 h) hf cs_X4_23 hC (z_1 hZ 1 (by decide) rfl) (q0 := (RX4, TX4, 3)) rfl rfl [.int v1] rfl rfl rfl (by decide) (by decide) (Nat.le_of_ble_eq_true rfl) (by decide) (by decide) dX4_digitAt_2 (fun x1 M2 hf => ?_)
  refine r_istore_n (L' := [(2, .int x1), (0, .ref (Z.1 1)), (1, .int v1)]) hC dX4_digitAt_5 (by decide) rfl ?_
  refine r_iload_n hC dX4_digitAt_6 0 rfl ?_
  refine r_bipush (v := 48) hC dX4_digitAt_7 rfl ?_
  refine r_icmp_lt 25 hC dX4_digitAt_9 (by decide) (fun h => ?_) (fun h => ?_)
  · have hf := if_T hf h
    refine r_iconst (v := (-1)) hC dX4_digitAt_25 rfl ?_
    exact r_iret hf hC (by decide) (by decide) dX4_digitAt_26
  · have hf := if_F hf h
    refine r_iload_n hC dX4_digitAt_12 0 rfl ?_
    refine r_bipush (v := 57) hC dX4_digitAt_13 rfl ?_
    refine r_icmp_gt 25 hC dX4_digitAt_15 (by decide) (fun h => ?_) (fun h => ?_)
    · have hf := if_T hf h
      refine r_iconst (v := (-1)) hC dX4_digitAt_25 rfl ?_
      exact r_iret hf hC (by decide) (by decide) dX4_digitAt_26
    · have hf := if_F hf h
      refine r_iload_n hC dX4_digitAt_18 0 rfl ?_
      refine r_bipush (v := 48) hC dX4_digitAt_19 rfl ?_
      refine r_isub hC dX4_digitAt_21 ?_
      refine r_goto 26 hC dX4_digitAt_22 (by decide) ?_
      exact r_iret hf hC (by decide) (by decide) dX4_digitAt_26
set_option maxRecDepth 20000 in
theorem c_X4_digitAt {l : Launch} (hl : l.stackTraces = false) {G : GG} {Z : ZZ} (hz : ZOk G Z) (hZ : ZM Z) (v1 : Int32) (M : Mem)  (r : Int32) (M' : Mem) (hf : f_X4_digitAt v1 M = some (r, M')) : CN (QcI G Z r M') l G Z yX4_digitAt cX4_digitAt 3 (some .int) 1 [.ref (Z.1 1), .int v1] M :=
  CN.of [(0, .ref (Z.1 1)), (1, .int v1)] hl (by decide +kernel) (Nat.le_of_ble_eq_true rfl) rfl (fun _ hC => w_X4_digitAt hC hz hZ v1 M  hf)
set_option maxRecDepth 20000 in
theorem w_X4_readCell_b50 {X : XX} {G : GG} {Z : ZZ} {r : Int32} {M' : Mem} (hC : Cx X G RX4 cX4_readCell (some .boolean) 3 0 0 8) (hz : ZOk G Z) (hZ : ZM Z) (s0 : Int32) (s1 : Int32) (s2 : Int32) (s3 : Nat) (hs3 : s3 < 18) (M : Mem) (hf : f_X4_readCell_b50 s0 s1 s2 s3 M = some (r, M')) : V X G Z M 0 0 (QN X G (QcI G Z r M') 0 0) 50 [(0, .ref (Z.1 1))] [.int s0, .int s1, .int s2, .ref (Z.1 (iSt s3))] := by
  unfold f_X4_readCell_b50 at hf
  refine r_callVV [] (fun r M1 h => c_X3_put (cx_st hC) hz hZ s3 s2 s1 s0 _ hs3 r M1 h) hf cs_X4_47 hC (z_S hZ hs3) (q0 := (RX3, TX3, 4)) rfl rfl [.int s2, .int s1, .int s0] rfl rfl rfl (by decide) (by decide) (Nat.le_of_ble_eq_true rfl) (by decide) (by decide) dX4_readCell_50 (fun x13 M14 hf => ?_)
  refine r_aload_n hC dX4_readCell_53 0 rfl ?_
  refine r_dup hC dX4_readCell_54 rfl ?_
  refine gf_X4_36 hC (z_1 hZ 1 (by decide) rfl) rfl dX4_readCell_55 ?_
  refine r_iconst (v := 1) hC dX4_readCell_58 rfl ?_
  refine r_iadd hC dX4_readCell_59 ?_
  refine pf_X4_36 hC hz (z_1 hZ 1 (by decide) rfl) rfl dX4_readCell_60 ?_
  refine r_iconst (v := 1) hC dX4_readCell_63 rfl ?_
  exact r_zret hf hC rfl rfl (by decide) (by decide) dX4_readCell_64
set_option maxRecDepth 20000 in
theorem w_X4_readCell_b33 {X : XX} {G : GG} {Z : ZZ} {r : Int32} {M' : Mem} (hC : Cx X G RX4 cX4_readCell (some .boolean) 3 0 0 8) (hz : ZOk G Z) (hZ : ZM Z) (q1 : Nat) (v2 : Int32) (v3 : Int32) (v4 : Int32) (hq1 : q1 < 18) (M : Mem) (hf : f_X4_readCell_b33 q1 v2 v3 v4 M = some (r, M')) : V X G Z M 0 0 (QN X G (QcI G Z r M') 0 0) 33 [(0, .ref (Z.1 1)), (1, .ref (Z.1 (iSt q1))), (2, .int v2), (3, .int v3), (4, .int v4)] [] := by
  unfold f_X4_readCell_b33 at hf
  refine r_aload_n hC dX4_readCell_33 1 rfl ?_
  refine r_iload_n hC dX4_readCell_34 2 rfl ?_
  refine r_iload_n hC dX4_readCell_35 3 rfl ?_
  refine r_iload hC dX4_readCell_36 4 rfl ?_
  refine r_bipush (v := 45) hC dX4_readCell_38 rfl ?_
  refine r_icmp_ne 48 hC dX4_readCell_40 (by decide) (fun h => ?_) (fun h => ?_)
  · have hf := if_F hf h
    refine r_bipush (v := 99) hC dX4_readCell_48 rfl ?_
    refine r_L [0] rfl ?_
    exact w_X4_readCell_b50 hC hz hZ 99 v3 v2 q1 hq1 _ hf
  · have hf := if_T hf h
    refine r_bipush (v := (-9)) hC dX4_readCell_43 rfl ?_
    refine r_goto 50 hC dX4_readCell_45 (by decide) ?_
    refine r_L [0] rfl ?_
    exact w_X4_readCell_b50 hC hz hZ (-9) v3 v2 q1 hq1 _ hf
set_option maxRecDepth 20000 in
theorem w_X4_readCell_b65 {X : XX} {G : GG} {Z : ZZ} {r : Int32} {M' : Mem} (hC : Cx X G RX4 cX4_readCell (some .boolean) 3 0 0 8) (hz : ZOk G Z) (hZ : ZM Z) (q1 : Nat) (v2 : Int32) (v3 : Int32) (hq1 : q1 < 18) (M : Mem) (hf : f_X4_readCell_b65 q1 v2 v3 M = some (r, M')) : V X G Z M 0 0 (QN X G (QcI G Z r M') 0 0) 65 [(0, .ref (Z.1 1)), (1, .ref (Z.1 (iSt q1))), (2, .int v2), (3, .int v3)] [] := by
  unfold f_X4_readCell_b65 at hf
  refine r_aload_n hC dX4_readCell_65 0 rfl ?_
  refine r_aload_n hC dX4_readCell_66 0 rfl ?_
  refine gf_X4_36 hC (z_1 hZ 1 (by decide) rfl) rfl dX4_readCell_67 ?_
  refine r_callVI [] (fun r M1 h => c_X4_digitAt (cx_st hC) hz hZ (M 1 2) _  r M1 h) hf cs_X4_27 hC (z_1 hZ 1 (by decide) rfl) (q0 := (RX4, TX4, 3)) rfl rfl [.int (M 1 2)] rfl rfl rfl (by decide) (by decide) (Nat.le_of_ble_eq_true rfl) (by decide) (by decide) dX4_readCell_70 (fun x5 M6 hf => ?_)
  refine r_istore (L' := [(5, .int x5), (0, .ref (Z.1 1)), (1, .ref (Z.1 (iSt q1))), (2, .int v2), (3, .int v3)]) hC dX4_readCell_73 (by decide) rfl ?_
  refine r_iload hC dX4_readCell_75 0 rfl ?_
  refine r_if_lt 87 hC dX4_readCell_77 (by decide) (fun h => ?_) (fun h => ?_)
  · have hf := if_T hf h
    refine r_iconst (v := 0) hC dX4_readCell_87 rfl ?_
    exact r_zret hf hC rfl rfl (by decide) (by decide) dX4_readCell_88
  · have hf := if_F hf h
    refine r_iload hC dX4_readCell_80 0 rfl ?_
    refine r_bipush (v := 6) hC dX4_readCell_82 rfl ?_
    refine r_icmp_le 89 hC dX4_readCell_84 (by decide) (fun h => ?_) (fun h => ?_)
    · have hf := if_T hf h
      refine r_aload_n hC dX4_readCell_89 1 rfl ?_
      refine r_dup hC dX4_readCell_90 rfl ?_
      refine gf_X4_36 hC (z_1 hZ 1 (by decide) rfl) rfl dX4_readCell_91 ?_
      refine r_iconst (v := 1) hC dX4_readCell_94 rfl ?_
      refine r_iadd hC dX4_readCell_95 ?_
      refine pf_X4_36 hC hz (z_1 hZ 1 (by decide) rfl) rfl dX4_readCell_96 ?_
      refine r_aload_n hC dX4_readCell_99 1 rfl ?_
      refine r_aload_n hC dX4_readCell_100 1 rfl ?_
      refine gf_X4_36 hC (z_1 hZ 1 (by decide) rfl) rfl dX4_readCell_101 ?_
      refine r_callVI [] (fun r M1 h => c_X4_digitAt (cx_st hC) hz hZ ((mw M6 1 2 ((M6 1 2) + 1)) 1 2) _  r M1 h) hf cs_X4_27 hC (z_1 hZ 1 (by decide) rfl) (q0 := (RX4, TX4, 3)) rfl rfl [.int ((mw M6 1 2 ((M6 1 2) + 1)) 1 2)] rfl rfl rfl (by decide) (by decide) (Nat.le_of_ble_eq_true rfl) (by decide) (by decide) dX4_readCell_104 (fun x7 M8 hf => ?_)
      refine r_istore (L' := [(6, .int x7), (5, .int x5), (0, .ref (Z.1 1)), (1, .ref (Z.1 (iSt q1))), (2, .int v2), (3, .int v3)]) hC dX4_readCell_107 (by decide) rfl ?_
      refine r_bipush (v := 10) hC dX4_readCell_109 rfl ?_
      refine r_iload hC dX4_readCell_111 1 rfl ?_
      refine r_imul hC dX4_readCell_113 ?_
      refine r_iload hC dX4_readCell_114 0 rfl ?_
      refine r_iadd hC dX4_readCell_116 ?_
      refine r_istore (L' := [(7, .int ((10 * x5) + x7)), (6, .int x7), (5, .int x5), (0, .ref (Z.1 1)), (1, .ref (Z.1 (iSt q1))), (2, .int v2), (3, .int v3)]) hC dX4_readCell_117 (by decide) rfl ?_
      refine r_iload hC dX4_readCell_119 1 rfl ?_
      refine r_iconst (v := (-1)) hC dX4_readCell_121 rfl ?_
      refine r_icmp_eq 133 hC dX4_readCell_122 (by decide) (fun h => ?_) (fun h => ?_)
      · have hf := if_T hf h
        refine r_iconst (v := 0) hC dX4_readCell_133 rfl ?_
        exact r_zret hf hC rfl rfl (by decide) (by decide) dX4_readCell_134
      · have hf := if_F hf h
        refine r_iload hC dX4_readCell_125 0 rfl ?_
        refine r_callSI [] (fun r M1 h => c_X3_isPitch (cx_st hC) hz hZ ((10 * x5) + x7) _  r M1 h) hf cs_X4_51 hC  rfl rfl (by decide) (by decide) (Nat.le_of_ble_eq_true rfl) (by decide) (by decide) dX4_readCell_127 (fun x9 M10 hf => ?_)
        refine r_if_ne 135 hC dX4_readCell_130 (by decide) (fun h => ?_) (fun h => ?_)
        · have hf := if_F hf h
          refine r_aload_n hC dX4_readCell_135 3 rfl ?_
          refine r_dup hC dX4_readCell_136 rfl ?_
          refine gf_X4_36 hC (z_1 hZ 1 (by decide) rfl) rfl dX4_readCell_137 ?_
          refine r_iconst (v := 1) hC dX4_readCell_140 rfl ?_
          refine r_iadd hC dX4_readCell_141 ?_
          refine pf_X4_36 hC hz (z_1 hZ 1 (by decide) rfl) rfl dX4_readCell_142 ?_
          refine r_aload_n hC dX4_readCell_145 4 rfl ?_
          refine r_iload_n hC dX4_readCell_146 5 rfl ?_
          refine r_iload_n hC dX4_readCell_147 6 rfl ?_
          refine r_iload hC dX4_readCell_148 0 rfl ?_
          refine r_callVV [] (fun r M1 h => c_X3_put (cx_st hC) hz hZ q1 v2 v3 ((10 * x5) + x7) _ hq1 r M1 h) hf cs_X4_47 hC (z_S hZ hq1) (q0 := (RX3, TX3, 4)) rfl rfl [.int v2, .int v3, .int ((10 * x5) + x7)] rfl rfl rfl (by decide) (by decide) (Nat.le_of_ble_eq_true rfl) (by decide) (by decide) dX4_readCell_150 (fun x11 M12 hf => ?_)
          refine r_iconst (v := 1) hC dX4_readCell_153 rfl ?_
          exact r_zret hf hC rfl rfl (by decide) (by decide) dX4_readCell_154
        · have hf := if_T hf h
          refine r_iconst (v := 0) hC dX4_readCell_133 rfl ?_
          exact r_zret hf hC rfl rfl (by decide) (by decide) dX4_readCell_134
    · have hf := if_F hf h
      refine r_iconst (v := 0) hC dX4_readCell_87 rfl ?_
      exact r_zret hf hC rfl rfl (by decide) (by decide) dX4_readCell_88
set_option maxRecDepth 20000 in
theorem w_X4_readCell {X : XX} {G : GG} {Z : ZZ} (hC : Cx X G RX4 cX4_readCell (some .boolean) 3 0 0 8) (hz : ZOk G Z) (hZ : ZM Z) (q1 : Nat) (v2 : Int32) (v3 : Int32) (M : Mem) (hq1 : q1 < 18) {r : Int32} {M' : Mem} (hf : f_X4_readCell q1 v2 v3 M = some (r, M')) : V X G Z M 0 0 (QN X G (QcI G Z r M') 0 0) 0 [(0, .ref (Z.1 1)), (1, .ref (Z.1 (iSt q1))), (2, .int v2), (3, .int v3)] [] := by
  unfold f_X4_readCell at hf
  refine r_aload_n hC dX4_readCell_0 0 rfl ?_
  refine r_aload_n hC dX4_readCell_1 0 rfl ?_
  refine gf_X4_36 hC (z_1 hZ 1 (by decide) rfl) rfl dX4_readCell_2 ?_
  refine r_callVI [] (fun r M1 h => c_X4_signAt (cx_st hC) hz hZ (M 1 2) _  r M1 h) hf cs_X4_23 hC (z_1 hZ 1 (by decide) rfl) (q0 := (RX4, TX4, 3)) rfl rfl [.int (M 1 2)] rfl rfl rfl (by decide) (by decide) (Nat.le_of_ble_eq_true rfl) (by decide) (by decide) dX4_readCell_5 (fun x1 M2 hf => ?_)
  refine r_istore (L' := [(4, .int x1), (0, .ref (Z.1 1)), (1, .ref (Z.1 (iSt q1))), (2, .int v2), (3, .int v3)]) hC dX4_readCell_8 (by decide) rfl ?_
  refine r_iload hC dX4_readCell_10 0 rfl ?_
  refine r_bipush (v := 45) hC dX4_readCell_12 rfl ?_
  refine r_icmp_eq 33 hC dX4_readCell_14 (by decide) (fun h => ?_) (fun h => ?_)
  · have hf := if_T hf h
    refine r_L [1, 2, 3, 4, 0] rfl ?_
    exact w_X4_readCell_b33 hC hz hZ q1 v2 v3 x1 hq1 _ hf
  · have hf := if_F hf h
    refine r_iload hC dX4_readCell_17 0 rfl ?_
    refine r_bipush (v := 61) hC dX4_readCell_19 rfl ?_
    refine r_icmp_ne 65 hC dX4_readCell_21 (by decide) (fun h => ?_) (fun h => ?_)
    · have hf := if_F hf h
      refine r_L [1, 2, 3, 4] rfl ?_
      exact w_X4_readCell_b65 hC hz hZ q1 v2 v3 hq1 _ hf
    · have hf := if_T hf h
      refine r_aload_n hC dX4_readCell_24 2 rfl ?_
      refine r_iload_n hC dX4_readCell_25 3 rfl ?_
      refine r_iload_n hC dX4_readCell_26 4 rfl ?_
      refine r_callVI [] (fun r M1 h => c_X3_allowsHold (cx_st hC) hz hZ q1 v2 v3 _ hq1 r M1 h) hf cs_X4_43 hC (z_S hZ hq1) (q0 := (RX3, TX3, 4)) rfl rfl [.int v2, .int v3] rfl rfl rfl (by decide) (by decide) (Nat.le_of_ble_eq_true rfl) (by decide) (by decide) dX4_readCell_27 (fun x3 M4 hf => ?_)
      refine r_if_eq 65 hC dX4_readCell_30 (by decide) (fun h => ?_) (fun h => ?_)
      · have hf := if_T hf h
        refine r_L [1, 2, 3, 4] rfl ?_
        exact w_X4_readCell_b65 hC hz hZ q1 v2 v3 hq1 _ hf
      · have hf := if_F hf h
        refine r_L [1, 2, 3, 4, 0] rfl ?_
        exact w_X4_readCell_b33 hC hz hZ q1 v2 v3 x1 hq1 _ hf
set_option maxRecDepth 20000 in
theorem c_X4_readCell {l : Launch} (hl : l.stackTraces = false) {G : GG} {Z : ZZ} (hz : ZOk G Z) (hZ : ZM Z) (q1 : Nat) (v2 : Int32) (v3 : Int32) (M : Mem) (hq1 : q1 < 18) (r : Int32) (M' : Mem) (hf : f_X4_readCell q1 v2 v3 M = some (r, M')) : CN (QcI G Z r M') l G Z yX4_readCell cX4_readCell 8 (some .boolean) 3 [.ref (Z.1 1), .ref (Z.1 (iSt q1)), .int v2, .int v3] M :=
  CN.of [(0, .ref (Z.1 1)), (1, .ref (Z.1 (iSt q1))), (2, .int v2), (3, .int v3)] hl (by decide +kernel) (Nat.le_of_ble_eq_true rfl) rfl (fun _ hC => w_X4_readCell hC hz hZ q1 v2 v3 M hq1 hf)
set_option maxRecDepth 20000 in
theorem w_X4_readInto_b108 {X : XX} {G : GG} {Z : ZZ} {r : Int32} {M' : Mem} (hC : Cx X G RX4 cX4_readInto (some .int) 4 0 0 8) (hz : ZOk G Z) (hZ : ZM Z) (q1 : Nat) (v2 : Int32) (v5 : Int32) (v6 : Int32) (hq1 : q1 < 18) (k99 : Int32 → Mem → Option (Int32 × Mem)) (hk99 : ∀ (u6 : Int32) (M : Mem), k99 u6 M = some (r, M') → V X G Z M 0 0 (QN X G (QcI G Z r M') 0 0) 99 [(0, .ref (Z.1 1)), (1, .ref (Z.1 (iSt q1))), (2, .int v2), (5, .int v5), (6, .int u6)] []) (k108 : Int32 → Mem → Option (Int32 × Mem)) (hk108 : ∀ (u7 : Int32) (M : Mem), k108 u7 M = some (r, M') → V X G Z M 0 0 (QN X G (QcI G Z r M') 0 0) 108 [(0, .ref (Z.1 1)), (1, .ref (Z.1 (iSt q1))), (2, .int v2), (5, .int v5), (6, .int v6), (7, .int u7)] []) (v7 : Int32) (M : Mem) (hf : f_X4_readInto_b108 q1 v2 v5 v6 k99 k108 v7 M = some (r, M')) : V X G Z M 0 0 (QN X G (QcI G Z r M') 0 0) 108 [(0, .ref (Z.1 1)), (1, .ref (Z.1 (iSt q1))), (2, .int v2), (5, .int v5), (6, .int v6), (7, .int v7)] [] := by
  unfold f_X4_readInto_b108 at hf
  refine r_iload hC dX4_readInto_108 5 rfl ?_
  refine r_iload hC dX4_readInto_110 3 rfl ?_
  refine r_icmp_ge 138 hC dX4_readInto_112 (by decide) (fun h => ?_) (fun h => ?_)
  · have hf := if_T hf h
    refine r_iinc (v := v6 + 1) (L' := [(6, .int (v6 + 1)), (0, .ref (Z.1 1)), (1, .ref (Z.1 (iSt q1))), (2, .int v2), (5, .int v5), (7, .int v7)]) hC dX4_readInto_138 4 rfl rfl (by decide) rfl ?_
    refine r_goto 99 hC dX4_readInto_141 (by decide) ?_
    refine r_L [1, 2, 3, 4, 0] rfl ?_
    exact hk99 _ _ hf
  · have hf := if_F hf h
    refine r_aload_n hC dX4_readInto_115 0 rfl ?_
    refine r_aload_n hC dX4_readInto_116 1 rfl ?_
    refine r_iload hC dX4_readInto_117 4 rfl ?_
    refine r_iload hC dX4_readInto_119 5 rfl ?_
    refine r_callVI [] (fun r M1 h => c_X4_readCell (cx_st hC) hz hZ q1 v6 v7 _ hq1 r M1 h) hf cs_X4_39 hC (z_1 hZ 1 (by decide) rfl) (q0 := (RX4, TX4, 3)) rfl rfl [.ref (Z.1 (iSt q1)), .int v6, .int v7] rfl rfl rfl (by decide) (by decide) (Nat.le_of_ble_eq_true rfl) (by decide) (by decide) dX4_readInto_121 (fun x11 M12 hf => ?_)
    refine r_if_ne 132 hC dX4_readInto_124 (by decide) (fun h => ?_) (fun h => ?_)
    · have hf := if_F hf h
      refine r_iinc (v := v7 + 1) (L' := [(7, .int (v7 + 1)), (0, .ref (Z.1 1)), (1, .ref (Z.1 (iSt q1))), (2, .int v2), (5, .int v5), (6, .int v6)]) hC dX4_readInto_132 5 rfl rfl (by decide) rfl ?_
      refine r_goto 108 hC dX4_readInto_135 (by decide) ?_
      refine r_L [1, 2, 3, 4, 5, 0] rfl ?_
      exact hk108 _ _ hf
    · have hf := if_T hf h
      refine r_aload_n hC dX4_readInto_127 0 rfl ?_
      refine gf_X4_36 hC (z_1 hZ 1 (by decide) rfl) rfl dX4_readInto_128 ?_
      exact r_iret hf hC (by decide) (by decide) dX4_readInto_131
set_option maxRecDepth 20000 in
theorem w_X4_readInto_b144 {X : XX} {G : GG} {Z : ZZ} {r : Int32} {M' : Mem} (hC : Cx X G RX4 cX4_readInto (some .int) 4 0 0 8) (hz : ZOk G Z) (hZ : ZM Z)  (M : Mem) (hf : f_X4_readInto_b144  M = some (r, M')) : V X G Z M 0 0 (QN X G (QcI G Z r M') 0 0) 144 [(0, .ref (Z.1 1))] [] := by
  unfold f_X4_readInto_b144 at hf
  refine r_aload_n hC dX4_readInto_144 0 rfl ?_
  refine gf_X4_36 hC (z_1 hZ 1 (by decide) rfl) rfl dX4_readInto_145 ?_
  refine r_aload_n hC dX4_readInto_148 0 rfl ?_
  refine gf_X4_15 hC (z_1 hZ 1 (by decide) rfl) rfl dX4_readInto_149 ?_
  refine r_icmp_ne 160 hC dX4_readInto_152 (by decide) (fun h => ?_) (fun h => ?_)
  · have hf := if_F hf h
    refine r_aload_n hC dX4_readInto_160 0 rfl ?_
    refine gf_X4_36 hC (z_1 hZ 1 (by decide) rfl) rfl dX4_readInto_161 ?_
    exact r_iret hf hC (by decide) (by decide) dX4_readInto_164
  · have hf := if_T hf h
    refine r_bipush (v := (-9)) hC dX4_readInto_155 rfl ?_
    refine r_goto 164 hC dX4_readInto_157 (by decide) ?_
    exact r_iret hf hC (by decide) (by decide) dX4_readInto_164
set_option maxRecDepth 20000 in
theorem w_X4_readInto_b99 {X : XX} {G : GG} {Z : ZZ} {r : Int32} {M' : Mem} (hC : Cx X G RX4 cX4_readInto (some .int) 4 0 0 8) (hz : ZOk G Z) (hZ : ZM Z) (q1 : Nat) (v2 : Int32) (v5 : Int32) (hq1 : q1 < 18) (k99 : Int32 → Mem → Option (Int32 × Mem)) (hk99 : ∀ (u6 : Int32) (M : Mem), k99 u6 M = some (r, M') → V X G Z M 0 0 (QN X G (QcI G Z r M') 0 0) 99 [(0, .ref (Z.1 1)), (1, .ref (Z.1 (iSt q1))), (2, .int v2), (5, .int v5), (6, .int u6)] []) (v6 : Int32) (M : Mem) (hf : f_X4_readInto_b99 q1 v2 v5 k99 v6 M = some (r, M')) : V X G Z M 0 0 (QN X G (QcI G Z r M') 0 0) 99 [(0, .ref (Z.1 1)), (1, .ref (Z.1 (iSt q1))), (2, .int v2), (5, .int v5), (6, .int v6)] [] := by
  unfold f_X4_readInto_b99 at hf
  refine r_iload hC dX4_readInto_99 4 rfl ?_
  refine r_iload_n hC dX4_readInto_101 2 rfl ?_
  refine r_icmp_ge 144 hC dX4_readInto_102 (by decide) (fun h => ?_) (fun h => ?_)
  · have hf := if_T hf h
    refine r_L [0] rfl ?_
    exact w_X4_readInto_b144 hC hz hZ  _ hf
  · have hf := if_F hf h
    refine r_iconst (v := 0) hC dX4_readInto_105 rfl ?_
    refine r_istore (L' := [(7, .int 0), (0, .ref (Z.1 1)), (1, .ref (Z.1 (iSt q1))), (2, .int v2), (5, .int v5), (6, .int v6)]) hC dX4_readInto_106 (by decide) rfl ?_
    refine r_L [1, 2, 3, 4, 5, 0] rfl ?_
    exact lq1_ind (P := fun (u7 : Int32) (M : Mem) => V X G Z M 0 0 (QN X G (QcI G Z r M') 0 0) 108 [(0, .ref (Z.1 1)), (1, .ref (Z.1 (iSt q1))), (2, .int v2), (5, .int v5), (6, .int v6), (7, .int u7)] []) (fun kk hkk u7 M hf => w_X4_readInto_b108 hC hz hZ q1 v2 v5 v6 hq1 k99 hk99 kk hkk u7 M hf) _ _ _ hf
set_option maxRecDepth 20000 in
theorem w_X4_readInto {X : XX} {G : GG} {Z : ZZ} (hC : Cx X G RX4 cX4_readInto (some .int) 4 0 0 8) (hz : ZOk G Z) (hZ : ZM Z) (q1 : Nat) (M : Mem) (hq1 : q1 < 18) {r : Int32} {M' : Mem} (hf : f_X4_readInto q1 M = some (r, M')) : V X G Z M 0 0 (QN X G (QcI G Z r M') 0 0) 0 [(0, .ref (Z.1 1)), (1, .ref (Z.1 (iSt q1)))] [] := by
  unfold f_X4_readInto at hf
  refine r_aload_n hC dX4_readInto_0 0 rfl ?_
  refine r_iconst (v := 0) hC dX4_readInto_1 rfl ?_
  refine r_callVI [] (fun r M1 h => c_X4_signAt (cx_st hC) hz hZ 0 _  r M1 h) hf cs_X4_23 hC (z_1 hZ 1 (by decide) rfl) (q0 := (RX4, TX4, 3)) rfl rfl [.int 0] rfl rfl rfl (by decide) (by decide) (Nat.le_of_ble_eq_true rfl) (by decide) (by decide) dX4_readInto_2 (fun x1 M2 hf => ?_)
  refine r_bipush (v := 77) hC dX4_readInto_5 rfl ?_
  refine r_icmp_eq 12 hC dX4_readInto_7 (by decide) (fun h => ?_) (fun h => ?_)
  · have hf := if_T hf h
    refine r_aload_n hC dX4_readInto_12 0 rfl ?_
    refine r_iconst (v := 1) hC dX4_readInto_13 rfl ?_
    refine r_callVI [] (fun r M1 h => c_X4_digitAt (cx_st hC) hz hZ 1 _  r M1 h) hf cs_X4_27 hC (z_1 hZ 1 (by decide) rfl) (q0 := (RX4, TX4, 3)) rfl rfl [.int 1] rfl rfl rfl (by decide) (by decide) (Nat.le_of_ble_eq_true rfl) (by decide) (by decide) dX4_readInto_14 (fun x3 M4 hf => ?_)
    refine r_istore_n (L' := [(2, .int x3), (0, .ref (Z.1 1)), (1, .ref (Z.1 (iSt q1)))]) hC dX4_readInto_17 (by decide) rfl ?_
    refine r_iload_n hC dX4_readInto_18 0 rfl ?_
    refine r_iconst (v := 1) hC dX4_readInto_19 rfl ?_
    refine r_icmp_lt 28 hC dX4_readInto_20 (by decide) (fun h => ?_) (fun h => ?_)
    · have hf := if_T hf h
      refine r_iconst (v := 1) hC dX4_readInto_28 rfl ?_
      exact r_iret hf hC (by decide) (by decide) dX4_readInto_29
    · have hf := if_F hf h
      refine r_iload_n hC dX4_readInto_23 0 rfl ?_
      refine r_iconst (v := 4) hC dX4_readInto_24 rfl ?_
      refine r_icmp_le 30 hC dX4_readInto_25 (by decide) (fun h => ?_) (fun h => ?_)
      · have hf := if_T hf h
        refine r_aload_n hC dX4_readInto_30 1 rfl ?_
        refine r_iconst (v := 2) hC dX4_readInto_31 rfl ?_
        refine r_callVI [] (fun r M1 h => c_X4_digitAt (cx_st hC) hz hZ 2 _  r M1 h) hf cs_X4_27 hC (z_1 hZ 1 (by decide) rfl) (q0 := (RX4, TX4, 3)) rfl rfl [.int 2] rfl rfl rfl (by decide) (by decide) (Nat.le_of_ble_eq_true rfl) (by decide) (by decide) dX4_readInto_32 (fun x5 M6 hf => ?_)
        refine r_istore_n (L' := [(3, .int x5), (2, .int x3), (0, .ref (Z.1 1)), (1, .ref (Z.1 (iSt q1)))]) hC dX4_readInto_35 (by decide) rfl ?_
        refine r_iload_n hC dX4_readInto_36 0 rfl ?_
        refine r_if_lt 45 hC dX4_readInto_37 (by decide) (fun h => ?_) (fun h => ?_)
        · have hf := if_T hf h
          refine r_iconst (v := 2) hC dX4_readInto_45 rfl ?_
          exact r_iret hf hC (by decide) (by decide) dX4_readInto_46
        · have hf := if_F hf h
          refine r_iload_n hC dX4_readInto_40 0 rfl ?_
          refine r_iconst (v := 1) hC dX4_readInto_41 rfl ?_
          refine r_icmp_le 47 hC dX4_readInto_42 (by decide) (fun h => ?_) (fun h => ?_)
          · have hf := if_T hf h
            refine r_aload_n hC dX4_readInto_47 2 rfl ?_
            refine r_iconst (v := 3) hC dX4_readInto_48 rfl ?_
            refine r_callVI [] (fun r M1 h => c_X4_digitAt (cx_st hC) hz hZ 3 _  r M1 h) hf cs_X4_27 hC (z_1 hZ 1 (by decide) rfl) (q0 := (RX4, TX4, 3)) rfl rfl [.int 3] rfl rfl rfl (by decide) (by decide) (Nat.le_of_ble_eq_true rfl) (by decide) (by decide) dX4_readInto_49 (fun x7 M8 hf => ?_)
            refine r_istore (L' := [(4, .int x7), (3, .int x5), (2, .int x3), (0, .ref (Z.1 1)), (1, .ref (Z.1 (iSt q1)))]) hC dX4_readInto_52 (by decide) rfl ?_
            refine r_bipush (v := 10) hC dX4_readInto_54 rfl ?_
            refine r_iload_n hC dX4_readInto_56 1 rfl ?_
            refine r_imul hC dX4_readInto_57 ?_
            refine r_iload hC dX4_readInto_58 0 rfl ?_
            refine r_iadd hC dX4_readInto_60 ?_
            refine r_istore (L' := [(5, .int ((10 * x5) + x7)), (4, .int x7), (3, .int x5), (2, .int x3), (0, .ref (Z.1 1)), (1, .ref (Z.1 (iSt q1)))]) hC dX4_readInto_61 (by decide) rfl ?_
            refine r_iload hC dX4_readInto_63 1 rfl ?_
            refine r_iconst (v := (-1)) hC dX4_readInto_65 rfl ?_
            refine r_icmp_eq 82 hC dX4_readInto_66 (by decide) (fun h => ?_) (fun h => ?_)
            · have hf := if_T hf h
              refine r_iconst (v := 3) hC dX4_readInto_82 rfl ?_
              exact r_iret hf hC (by decide) (by decide) dX4_readInto_83
            · have hf := if_F hf h
              refine r_iload hC dX4_readInto_69 0 rfl ?_
              refine r_iconst (v := 1) hC dX4_readInto_71 rfl ?_
              refine r_icmp_lt 82 hC dX4_readInto_72 (by decide) (fun h => ?_) (fun h => ?_)
              · have hf := if_T hf h
                refine r_iconst (v := 3) hC dX4_readInto_82 rfl ?_
                exact r_iret hf hC (by decide) (by decide) dX4_readInto_83
              · have hf := if_F hf h
                refine r_iload hC dX4_readInto_75 0 rfl ?_
                refine r_bipush (v := 16) hC dX4_readInto_77 rfl ?_
                refine r_icmp_le 84 hC dX4_readInto_79 (by decide) (fun h => ?_) (fun h => ?_)
                · have hf := if_T hf h
                  refine r_aload_n hC dX4_readInto_84 5 rfl ?_
                  refine r_iload_n hC dX4_readInto_85 3 rfl ?_
                  refine r_iload hC dX4_readInto_86 0 rfl ?_
                  refine r_callVV [] (fun r M1 h => c_X3_becomeRests (cx_st hC) hz hZ q1 x3 ((10 * x5) + x7) _ hq1 r M1 h) hf cs_X4_30 hC (z_S hZ hq1) (q0 := (RX3, TX3, 4)) rfl rfl [.int x3, .int ((10 * x5) + x7)] rfl rfl rfl (by decide) (by decide) (Nat.le_of_ble_eq_true rfl) (by decide) (by decide) dX4_readInto_88 (fun x9 M10 hf => ?_)
                  refine r_aload_n hC dX4_readInto_91 4 rfl ?_
                  refine r_iconst (v := 4) hC dX4_readInto_92 rfl ?_
                  refine pf_X4_36 hC hz (z_1 hZ 1 (by decide) rfl) rfl dX4_readInto_93 ?_
                  refine r_iconst (v := 0) hC dX4_readInto_96 rfl ?_
                  refine r_istore (L' := [(6, .int 0), (5, .int ((10 * x5) + x7)), (4, .int x7), (3, .int x5), (2, .int x3), (0, .ref (Z.1 1)), (1, .ref (Z.1 (iSt q1)))]) hC dX4_readInto_97 (by decide) rfl ?_
                  refine r_L [5, 6, 4, 1, 0] rfl ?_
                  exact lq1_ind (P := fun (u6 : Int32) (M : Mem) => V X G Z M 0 0 (QN X G (QcI G Z r M') 0 0) 99 [(0, .ref (Z.1 1)), (1, .ref (Z.1 (iSt q1))), (2, .int x3), (5, .int ((10 * x5) + x7)), (6, .int u6)] []) (fun kk hkk u6 M hf => w_X4_readInto_b99 hC hz hZ q1 x3 ((10 * x5) + x7) hq1 kk hkk u6 M hf) _ _ _ hf
                · have hf := if_F hf h
                  refine r_iconst (v := 3) hC dX4_readInto_82 rfl ?_
                  exact r_iret hf hC (by decide) (by decide) dX4_readInto_83
          · have hf := if_F hf h
            refine r_iconst (v := 2) hC dX4_readInto_45 rfl ?_
            exact r_iret hf hC (by decide) (by decide) dX4_readInto_46
      · have hf := if_F hf h
        refine r_iconst (v := 1) hC dX4_readInto_28 rfl ?_
        exact r_iret hf hC (by decide) (by decide) dX4_readInto_29
  · have hf := if_F hf h
    refine r_iconst (v := 0) hC dX4_readInto_10 rfl ?_
    exact r_iret hf hC (by decide) (by decide) dX4_readInto_11
set_option maxRecDepth 20000 in
theorem c_X4_readInto {l : Launch} (hl : l.stackTraces = false) {G : GG} {Z : ZZ} (hz : ZOk G Z) (hZ : ZM Z) (q1 : Nat) (M : Mem) (hq1 : q1 < 18) (r : Int32) (M' : Mem) (hf : f_X4_readInto q1 M = some (r, M')) : CN (QcI G Z r M') l G Z yX4_readInto cX4_readInto 8 (some .int) 4 [.ref (Z.1 1), .ref (Z.1 (iSt q1))] M :=
  CN.of [(0, .ref (Z.1 1)), (1, .ref (Z.1 (iSt q1)))] hl (by decide +kernel) (Nat.le_of_ble_eq_true rfl) rfl (fun _ hC => w_X4_readInto hC hz hZ q1 M hq1 hf)
