set_option maxRecDepth 20000 in
theorem w_X0_readNotes_b46 {X : XX} {G : GG} {Z : ZZ} {r : Unit} {M' : Mem} (hC : Cx X G RX0 cX0_readNotes none 2 0 0 4) (hz : ZOk G Z) (hZ : ZM Z) (b0 : Nat) (q1 : Nat) (v2 : Int32) (v3 : Int32) (hb0 : b0 < 17) (hq1 : q1 < 18) (k7 : Int32 → Mem → Option (Unit × Mem)) (hk7 : ∀ (u3 : Int32) (M : Mem), k7 u3 M = some (r, M') → V X G Z M 0 0 (QN X G (QcV G Z r M') 0 0) 7 [(0, .ref (Z.1 (iCh b0))), (1, .ref (Z.1 (iSt q1))), (2, .int v2), (3, .int u3)] []) (s0 : Int32) (s1 : Int32) (s2 : Nat) (hs2 : At Z s2 (dA 0 4)) (M : Mem) (hf : f_X0_readNotes_b46 b0 q1 v2 v3 k7 s0 s1 s2 M = some (r, M')) : V X G Z M 0 0 (QN X G (QcV G Z r M') 0 0) 46 [(0, .ref (Z.1 (iCh b0))), (1, .ref (Z.1 (iSt q1))), (2, .int v2), (3, .int v3)] [.int s0, .int s1, .ref (Z.1 s2)] := by
  unfold f_X0_readNotes_b46 at hf
  have hin := if_K hf
  have hf := if_V hf
  refine r_iast hC hz hs2 (inb_vp hin) dX0_readNotes_46 ?_
  refine r_aload_n hC dX0_readNotes_47 1 rfl ?_
  refine r_iload_n hC dX0_readNotes_48 3 rfl ?_
  refine r_iload_n hC dX0_readNotes_49 2 rfl ?_
  refine r_callVI [] (fun r M1 h => c_X3_written (cx_st hC) hz hZ q1 v3 v2 _ hq1 r M1 h) hf cs_X0_79 hC (z_S hZ hq1) (q0 := (RX3, TX3, 4)) rfl rfl [.int v3, .int v2] rfl rfl rfl (by decide) (by decide) (Nat.le_of_ble_eq_true rfl) (by decide) (by decide) dX0_readNotes_50 (fun x3 M4 hf => ?_)
  refine r_bipush (v := 99) hC dX0_readNotes_53 rfl ?_
  refine r_icmp_ne 70 hC dX0_readNotes_55 (by decide) (fun h => ?_) (fun h => ?_)
  · have hf := if_F hf h
    refine r_iinc (v := v3 + 1) (L' := [(3, .int (v3 + 1)), (0, .ref (Z.1 (iCh b0))), (1, .ref (Z.1 (iSt q1))), (2, .int v2)]) hC dX0_readNotes_70 3 rfl rfl (by decide) rfl ?_
    refine r_goto 7 hC dX0_readNotes_73 (by decide) ?_
    refine r_L [1, 2, 3, 0] rfl ?_
    exact hk7 _ _ hf
  · have hf := if_T hf h
    refine r_aload_n hC dX0_readNotes_58 0 rfl ?_
    refine r_dup hC dX0_readNotes_59 rfl ?_
    refine gf_X0_73 hC (z_C hZ hb0) rfl dX0_readNotes_60 ?_
    refine r_iconst (v := 1) hC dX0_readNotes_63 rfl ?_
    refine r_iload_n hC dX0_readNotes_64 3 rfl ?_
    refine r_ishl hC dX0_readNotes_65 ?_
    refine r_ior hC dX0_readNotes_66 ?_
    refine pf_X0_73 hC hz (z_C hZ hb0) rfl dX0_readNotes_67 ?_
    refine r_iinc (v := v3 + 1) (L' := [(3, .int (v3 + 1)), (0, .ref (Z.1 (iCh b0))), (1, .ref (Z.1 (iSt q1))), (2, .int v2)]) hC dX0_readNotes_70 3 rfl rfl (by decide) rfl ?_
    refine r_goto 7 hC dX0_readNotes_73 (by decide) ?_
    refine r_L [1, 2, 3, 0] rfl ?_
    exact hk7 _ _ hf
set_option maxRecDepth 20000 in
theorem w_X0_readNotes_b7 {X : XX} {G : GG} {Z : ZZ} {r : Unit} {M' : Mem} (hC : Cx X G RX0 cX0_readNotes none 2 0 0 4) (hz : ZOk G Z) (hZ : ZM Z) (b0 : Nat) (q1 : Nat) (v2 : Int32) (hb0 : b0 < 17) (hq1 : q1 < 18) (k7 : Int32 → Mem → Option (Unit × Mem)) (hk7 : ∀ (u3 : Int32) (M : Mem), k7 u3 M = some (r, M') → V X G Z M 0 0 (QN X G (QcV G Z r M') 0 0) 7 [(0, .ref (Z.1 (iCh b0))), (1, .ref (Z.1 (iSt q1))), (2, .int v2), (3, .int u3)] []) (v3 : Int32) (M : Mem) (hf : f_X0_readNotes_b7 b0 q1 v2 k7 v3 M = some (r, M')) : V X G Z M 0 0 (QN X G (QcV G Z r M') 0 0) 7 [(0, .ref (Z.1 (iCh b0))), (1, .ref (Z.1 (iSt q1))), (2, .int v2), (3, .int v3)] [] := by
  unfold f_X0_readNotes_b7 at hf
  refine r_iload_n hC dX0_readNotes_7 3 rfl ?_
  refine r_iconst (v := 4) hC dX0_readNotes_8 rfl ?_
  refine r_icmp_ge 76 hC dX0_readNotes_9 (by decide) (fun h => ?_) (fun h => ?_)
  · have hf := if_T hf h
    exact r_vret hf hC (by decide) (by decide) dX0_readNotes_76
  · have hf := if_F hf h
    refine r_aload_n hC dX0_readNotes_12 0 rfl ?_
    refine gf_X0_15 hC (z_C hZ hb0) rfl dX0_readNotes_13 ?_
    refine r_iload_n hC dX0_readNotes_16 3 rfl ?_
    refine r_aload_n hC dX0_readNotes_17 1 rfl ?_
    refine r_iload_n hC dX0_readNotes_18 3 rfl ?_
    refine r_iload_n hC dX0_readNotes_19 2 rfl ?_
    refine r_callVI [.int v3, .ref (Z.1 (iCh b0 + 2))] (fun r M1 h => c_X3_sounding (cx_st hC) hz hZ q1 v3 v2 _ hq1 r M1 h) hf cs_X0_76 hC (z_S hZ hq1) (q0 := (RX3, TX3, 4)) rfl rfl [.int v3, .int v2] rfl rfl rfl (by decide) (by decide) (Nat.le_of_ble_eq_true rfl) (by decide) (by decide) dX0_readNotes_20 (fun x1 M2 hf => ?_)
    have hin := if_K hf
    have hf := if_V hf
    refine r_iast hC hz (z_Cj hZ hb0 2 (by decide) rfl) (inb_vp hin) dX0_readNotes_23 ?_
    refine r_aload_n hC dX0_readNotes_24 0 rfl ?_
    refine gf_X0_18 hC (z_C hZ hb0) rfl dX0_readNotes_25 ?_
    refine r_iload_n hC dX0_readNotes_28 3 rfl ?_
    refine r_aload_n hC dX0_readNotes_29 0 rfl ?_
    refine gf_X0_15 hC (z_C hZ hb0) rfl dX0_readNotes_30 ?_
    refine r_iload_n hC dX0_readNotes_33 3 rfl ?_
    have hin := if_K hf
    have hf := if_V hf
    refine r_iald hC (z_Cj hZ hb0 2 (by decide) rfl) (inb_vp hin) dX0_readNotes_34 ?_
    refine r_bipush (v := (-9)) hC dX0_readNotes_35 rfl ?_
    refine r_icmp_ne 45 hC dX0_readNotes_37 (by decide) (fun h => ?_) (fun h => ?_)
    · have hf := if_F hf h
      refine r_iconst (v := 0) hC dX0_readNotes_45 rfl ?_
      exact w_X0_readNotes_b46 hC hz hZ b0 q1 v2 v3 hb0 hq1 k7 hk7 0 v3 (iCh b0 + 3) (z_Cj hZ hb0 3 (by decide) rfl) _ hf
    · have hf := if_T hf h
      refine r_bipush (v := (-9)) hC dX0_readNotes_40 rfl ?_
      refine r_goto 46 hC dX0_readNotes_42 (by decide) ?_
      exact w_X0_readNotes_b46 hC hz hZ b0 q1 v2 v3 hb0 hq1 k7 hk7 (-9) v3 (iCh b0 + 3) (z_Cj hZ hb0 3 (by decide) rfl) _ hf
set_option maxRecDepth 20000 in
theorem w_X0_readNotes {X : XX} {G : GG} {Z : ZZ} (hC : Cx X G RX0 cX0_readNotes none 2 0 0 4) (hz : ZOk G Z) (hZ : ZM Z) (b0 : Nat) (q1 : Nat) (v2 : Int32) (M : Mem) (hb0 : b0 < 17) (hq1 : q1 < 18) {r : Unit} {M' : Mem} (hf : f_X0_readNotes b0 q1 v2 M = some (r, M')) : V X G Z M 0 0 (QN X G (QcV G Z r M') 0 0) 0 [(0, .ref (Z.1 (iCh b0))), (1, .ref (Z.1 (iSt q1))), (2, .int v2)] [] := by
  unfold f_X0_readNotes at hf
  refine r_aload_n hC dX0_readNotes_0 0 rfl ?_
  refine r_iconst (v := 0) hC dX0_readNotes_1 rfl ?_
  refine pf_X0_73 hC hz (z_C hZ hb0) rfl dX0_readNotes_2 ?_
  refine r_iconst (v := 0) hC dX0_readNotes_5 rfl ?_
  refine r_istore_n (L' := [(3, .int 0), (0, .ref (Z.1 (iCh b0))), (1, .ref (Z.1 (iSt q1))), (2, .int v2)]) hC dX0_readNotes_6 (by decide) rfl ?_
  refine r_L [1, 2, 3, 0] rfl ?_
  exact lq1_ind (P := fun (u3 : Int32) (M : Mem) => V X G Z M 0 0 (QN X G (QcV G Z r M') 0 0) 7 [(0, .ref (Z.1 (iCh b0))), (1, .ref (Z.1 (iSt q1))), (2, .int v2), (3, .int u3)] []) (fun kk hkk u3 M hf => w_X0_readNotes_b7 hC hz hZ b0 q1 v2 hb0 hq1 kk hkk u3 M hf) _ _ _ hf
set_option maxRecDepth 20000 in
theorem c_X0_readNotes {l : Launch} (hl : l.stackTraces = false) {G : GG} {Z : ZZ} (hz : ZOk G Z) (hZ : ZM Z) (b0 : Nat) (q1 : Nat) (v2 : Int32) (M : Mem) (hb0 : b0 < 17) (hq1 : q1 < 18) (r : Unit) (M' : Mem) (hf : f_X0_readNotes b0 q1 v2 M = some (r, M')) : CN (QcV G Z r M') l G Z yX0_readNotes cX0_readNotes 4 none 2 [.ref (Z.1 (iCh b0)), .ref (Z.1 (iSt q1)), .int v2] M :=
  CN.of [(0, .ref (Z.1 (iCh b0))), (1, .ref (Z.1 (iSt q1))), (2, .int v2)] hl (by decide +kernel) (Nat.le_of_ble_eq_true rfl) rfl (fun _ hC => w_X0_readNotes hC hz hZ b0 q1 v2 M hb0 hq1 hf)
set_option maxRecDepth 20000 in
theorem w_X0_readSettings_b24 {X : XX} {G : GG} {Z : ZZ} {r : Unit} {M' : Mem} (hC : Cx X G RX0 cX0_readSettings none 2 0 0 3) (hz : ZOk G Z) (hZ : ZM Z) (b0 : Nat) (q1 : Nat) (hb0 : b0 < 17) (hq1 : q1 < 18) (M : Mem) (hf : f_X0_readSettings_b24 b0 q1 M = some (r, M')) : V X G Z M 0 0 (QN X G (QcV G Z r M') 0 0) 24 [(0, .ref (Z.1 (iCh b0))), (1, .ref (Z.1 (iSt q1)))] [] := by
  unfold f_X0_readSettings_b24 at hf
  refine r_aload_n hC dX0_readSettings_24 0 rfl ?_
  refine r_aload_n hC dX0_readSettings_25 1 rfl ?_
  refine r_iconst (v := 2) hC dX0_readSettings_26 rfl ?_
  refine r_callVI [.ref (Z.1 (iCh b0))] (fun r M1 h => c_X3_settingAt (cx_st hC) hz hZ q1 2 _ hq1 r M1 h) hf cs_X0_59 hC (z_S hZ hq1) (q0 := (RX3, TX3, 4)) rfl rfl [.int 2] rfl rfl rfl (by decide) (by decide) (Nat.le_of_ble_eq_true rfl) (by decide) (by decide) dX0_readSettings_27 (fun x3 M4 hf => ?_)
  refine pf_X0_63 hC hz (z_C hZ hb0) rfl dX0_readSettings_30 ?_
  refine r_aload_n hC dX0_readSettings_33 0 rfl ?_
  refine r_aload_n hC dX0_readSettings_34 1 rfl ?_
  refine r_iconst (v := 3) hC dX0_readSettings_35 rfl ?_
  refine r_callVI [.ref (Z.1 (iCh b0))] (fun r M1 h => c_X3_settingAt (cx_st hC) hz hZ q1 3 _ hq1 r M1 h) hf cs_X0_59 hC (z_S hZ hq1) (q0 := (RX3, TX3, 4)) rfl rfl [.int 3] rfl rfl rfl (by decide) (by decide) (Nat.le_of_ble_eq_true rfl) (by decide) (by decide) dX0_readSettings_36 (fun x5 M6 hf => ?_)
  refine pf_X0_66 hC hz (z_C hZ hb0) rfl dX0_readSettings_39 ?_
  refine r_aload_n hC dX0_readSettings_42 0 rfl ?_
  refine r_aload_n hC dX0_readSettings_43 1 rfl ?_
  refine r_iconst (v := 4) hC dX0_readSettings_44 rfl ?_
  refine r_callVI [.ref (Z.1 (iCh b0))] (fun r M1 h => c_X3_settingAt (cx_st hC) hz hZ q1 4 _ hq1 r M1 h) hf cs_X0_59 hC (z_S hZ hq1) (q0 := (RX3, TX3, 4)) rfl rfl [.int 4] rfl rfl rfl (by decide) (by decide) (Nat.le_of_ble_eq_true rfl) (by decide) (by decide) dX0_readSettings_45 (fun x7 M8 hf => ?_)
  refine r_iconst (v := 1) hC dX0_readSettings_48 rfl ?_
  refine r_icmp_ne 56 hC dX0_readSettings_49 (by decide) (fun h => ?_) (fun h => ?_)
  · have hf := if_F hf h
    refine r_iconst (v := 0) hC dX0_readSettings_56 rfl ?_
    refine pf_X0_69 hC hz (z_C hZ hb0) rfl (nar_bool (x := 0) (by decide)) dX0_readSettings_57 ?_
    exact r_vret hf hC (by decide) (by decide) dX0_readSettings_60
  · have hf := if_T hf h
    refine r_iconst (v := 1) hC dX0_readSettings_52 rfl ?_
    refine r_goto 57 hC dX0_readSettings_53 (by decide) ?_
    refine pf_X0_69 hC hz (z_C hZ hb0) rfl (nar_bool (x := 1) (by decide)) dX0_readSettings_57 ?_
    exact r_vret hf hC (by decide) (by decide) dX0_readSettings_60
set_option maxRecDepth 20000 in
theorem w_X0_readSettings_b2 {X : XX} {G : GG} {Z : ZZ} {r : Unit} {M' : Mem} (hC : Cx X G RX0 cX0_readSettings none 2 0 0 3) (hz : ZOk G Z) (hZ : ZM Z) (b0 : Nat) (q1 : Nat) (hb0 : b0 < 17) (hq1 : q1 < 18) (k2 : Int32 → Mem → Option (Unit × Mem)) (hk2 : ∀ (u2 : Int32) (M : Mem), k2 u2 M = some (r, M') → V X G Z M 0 0 (QN X G (QcV G Z r M') 0 0) 2 [(0, .ref (Z.1 (iCh b0))), (1, .ref (Z.1 (iSt q1))), (2, .int u2)] []) (v2 : Int32) (M : Mem) (hf : f_X0_readSettings_b2 b0 q1 k2 v2 M = some (r, M')) : V X G Z M 0 0 (QN X G (QcV G Z r M') 0 0) 2 [(0, .ref (Z.1 (iCh b0))), (1, .ref (Z.1 (iSt q1))), (2, .int v2)] [] := by
  unfold f_X0_readSettings_b2 at hf
  refine r_iload_n hC dX0_readSettings_2 2 rfl ?_
  refine r_iconst (v := 2) hC dX0_readSettings_3 rfl ?_
  refine r_icmp_ge 24 hC dX0_readSettings_4 (by decide) (fun h => ?_) (fun h => ?_)
  · have hf := if_T hf h
    refine r_L [0, 1] rfl ?_
    exact w_X0_readSettings_b24 hC hz hZ b0 q1 hb0 hq1 _ hf
  · have hf := if_F hf h
    refine r_aload_n hC dX0_readSettings_7 0 rfl ?_
    refine gf_X0_9 hC (z_C hZ hb0) rfl dX0_readSettings_8 ?_
    refine r_iload_n hC dX0_readSettings_11 2 rfl ?_
    refine r_aload_n hC dX0_readSettings_12 1 rfl ?_
    refine r_iload_n hC dX0_readSettings_13 2 rfl ?_
    refine r_callVI [.int v2, .ref (Z.1 (iCh b0 + 1))] (fun r M1 h => c_X3_settingAt (cx_st hC) hz hZ q1 v2 _ hq1 r M1 h) hf cs_X0_59 hC (z_S hZ hq1) (q0 := (RX3, TX3, 4)) rfl rfl [.int v2] rfl rfl rfl (by decide) (by decide) (Nat.le_of_ble_eq_true rfl) (by decide) (by decide) dX0_readSettings_14 (fun x1 M2 hf => ?_)
    have hin := if_K hf
    have hf := if_V hf
    refine r_iast hC hz (z_Cj hZ hb0 1 (by decide) rfl) (inb_vp hin) dX0_readSettings_17 ?_
    refine r_iinc (v := v2 + 1) (L' := [(2, .int (v2 + 1)), (0, .ref (Z.1 (iCh b0))), (1, .ref (Z.1 (iSt q1)))]) hC dX0_readSettings_18 2 rfl rfl (by decide) rfl ?_
    refine r_goto 2 hC dX0_readSettings_21 (by decide) ?_
    refine r_L [1, 2, 0] rfl ?_
    exact hk2 _ _ hf
set_option maxRecDepth 20000 in
theorem w_X0_readSettings {X : XX} {G : GG} {Z : ZZ} (hC : Cx X G RX0 cX0_readSettings none 2 0 0 3) (hz : ZOk G Z) (hZ : ZM Z) (b0 : Nat) (q1 : Nat) (M : Mem) (hb0 : b0 < 17) (hq1 : q1 < 18) {r : Unit} {M' : Mem} (hf : f_X0_readSettings b0 q1 M = some (r, M')) : V X G Z M 0 0 (QN X G (QcV G Z r M') 0 0) 0 [(0, .ref (Z.1 (iCh b0))), (1, .ref (Z.1 (iSt q1)))] [] := by
  unfold f_X0_readSettings at hf
  refine r_iconst (v := 0) hC dX0_readSettings_0 rfl ?_
  refine r_istore_n (L' := [(2, .int 0), (0, .ref (Z.1 (iCh b0))), (1, .ref (Z.1 (iSt q1)))]) hC dX0_readSettings_1 (by decide) rfl ?_
  refine r_L [1, 2, 0] rfl ?_
  exact lq1_ind (P := fun (u2 : Int32) (M : Mem) => V X G Z M 0 0 (QN X G (QcV G Z r M') 0 0) 2 [(0, .ref (Z.1 (iCh b0))), (1, .ref (Z.1 (iSt q1))), (2, .int u2)] []) (fun kk hkk u2 M hf => w_X0_readSettings_b2 hC hz hZ b0 q1 hb0 hq1 kk hkk u2 M hf) _ _ _ hf
set_option maxRecDepth 20000 in
theorem c_X0_readSettings {l : Launch} (hl : l.stackTraces = false) {G : GG} {Z : ZZ} (hz : ZOk G Z) (hZ : ZM Z) (b0 : Nat) (q1 : Nat) (M : Mem) (hb0 : b0 < 17) (hq1 : q1 < 18) (r : Unit) (M' : Mem) (hf : f_X0_readSettings b0 q1 M = some (r, M')) : CN (QcV G Z r M') l G Z yX0_readSettings cX0_readSettings 3 none 2 [.ref (Z.1 (iCh b0)), .ref (Z.1 (iSt q1))] M :=
  CN.of [(0, .ref (Z.1 (iCh b0))), (1, .ref (Z.1 (iSt q1)))] hl (by decide +kernel) (Nat.le_of_ble_eq_true rfl) rfl (fun _ hC => w_X0_readSettings hC hz hZ b0 q1 M hb0 hq1 hf)
set_option maxRecDepth 20000 in
theorem w_X0_reasonFor_b23 {X : XX} {G : GG} {Z : ZZ} {r : Int32} {M' : Mem} (hC : Cx X G RX0 cX0_reasonFor (some .int) 1 0 0 6) (hz : ZOk G Z) (hZ : ZM Z) (b0 : Nat) (v1 : Int32) (v2 : Int32) (v3 : Int32) (v4 : Int32) (hb0 : b0 < 17) (k5 : Int32 → Int32 → Mem → Option (Int32 × Mem)) (hk5 : ∀ (u3 : Int32) (u4 : Int32) (M : Mem), k5 u3 u4 M = some (r, M') → V X G Z M 0 0 (QN X G (QcI G Z r M') 0 0) 5 [(0, .ref (Z.1 (iCh b0))), (1, .int v1), (2, .int v2), (3, .int u3), (4, .int u4)] []) (M : Mem) (hf : f_X0_reasonFor_b23 b0 v1 v2 v3 v4 k5 M = some (r, M')) : V X G Z M 0 0 (QN X G (QcI G Z r M') 0 0) 23 [(0, .ref (Z.1 (iCh b0))), (1, .int v1), (2, .int v2), (3, .int v3), (4, .int v4)] [] := by
  unfold f_X0_reasonFor_b23 at hf
  refine r_aload_n hC dX0_reasonFor_23 0 rfl ?_
  refine gf_X0_18 hC (z_C hZ hb0) rfl dX0_reasonFor_24 ?_
  refine r_iload hC dX0_reasonFor_27 4 rfl ?_
  have hin := if_K hf
  have hf := if_V hf
  refine r_iald hC (z_Cj hZ hb0 3 (by decide) rfl) (inb_vp hin) dX0_reasonFor_29 ?_
  refine r_if_ne 76 hC dX0_reasonFor_30 (by decide) (fun h => ?_) (fun h => ?_)
  · have hf := if_F hf h
    refine r_iinc (v := v4 + 1) (L' := [(4, .int (v4 + 1)), (0, .ref (Z.1 (iCh b0))), (1, .int v1), (2, .int v2), (3, .int v3)]) hC dX0_reasonFor_76 4 rfl rfl (by decide) rfl ?_
    refine r_goto 5 hC dX0_reasonFor_79 (by decide) ?_
    refine r_L [1, 2, 3, 4, 0] rfl ?_
    exact hk5 _ _ _ hf
  · have hf := if_T hf h
    refine r_aload_n hC dX0_reasonFor_33 0 rfl ?_
    refine gf_X0_15 hC (z_C hZ hb0) rfl dX0_reasonFor_34 ?_
    refine r_iload_n hC dX0_reasonFor_37 1 rfl ?_
    have hin := if_K hf
    have hf := if_V hf
    refine r_iald hC (z_Cj hZ hb0 2 (by decide) rfl) (inb_vp hin) dX0_reasonFor_38 ?_
    refine r_aload_n hC dX0_reasonFor_39 0 rfl ?_
    refine gf_X0_15 hC (z_C hZ hb0) rfl dX0_reasonFor_40 ?_
    refine r_iload hC dX0_reasonFor_43 4 rfl ?_
    have hin := if_K hf
    have hf := if_V hf
    refine r_iald hC (z_Cj hZ hb0 2 (by decide) rfl) (inb_vp hin) dX0_reasonFor_45 ?_
    refine r_isub hC dX0_reasonFor_46 ?_
    refine r_mabs hC ma_X0_82 (by decide) (by decide) (by decide) (by decide) dX0_reasonFor_47 ?_
    refine r_istore (L' := [(5, .int (if 0 ≤ ((M (iCh b0 + 2) (Int32.toNatClampNeg v1)) - (M (iCh b0 + 2) (Int32.toNatClampNeg v4))) then ((M (iCh b0 + 2) (Int32.toNatClampNeg v1)) - (M (iCh b0 + 2) (Int32.toNatClampNeg v4))) else 0 - ((M (iCh b0 + 2) (Int32.toNatClampNeg v1)) - (M (iCh b0 + 2) (Int32.toNatClampNeg v4))))), (0, .ref (Z.1 (iCh b0))), (1, .int v1), (2, .int v2), (3, .int v3), (4, .int v4)]) hC dX0_reasonFor_50 (by decide) rfl ?_
    refine r_iload hC dX0_reasonFor_52 0 rfl ?_
    refine r_if_ne 59 hC dX0_reasonFor_54 (by decide) (fun h => ?_) (fun h => ?_)
    · have hf := if_F hf h
      refine r_aload_n hC dX0_reasonFor_59 1 rfl ?_
      refine gf_X0_69 hC (z_C hZ hb0) rfl dX0_reasonFor_60 ?_
      refine r_if_eq 76 hC dX0_reasonFor_63 (by decide) (fun h => ?_) (fun h => ?_)
      · have hf := if_T hf h
        refine r_iinc (v := v4 + 1) (L' := [(4, .int (v4 + 1)), (5, .int (if 0 ≤ ((M (iCh b0 + 2) (Int32.toNatClampNeg v1)) - (M (iCh b0 + 2) (Int32.toNatClampNeg v4))) then ((M (iCh b0 + 2) (Int32.toNatClampNeg v1)) - (M (iCh b0 + 2) (Int32.toNatClampNeg v4))) else 0 - ((M (iCh b0 + 2) (Int32.toNatClampNeg v1)) - (M (iCh b0 + 2) (Int32.toNatClampNeg v4))))), (0, .ref (Z.1 (iCh b0))), (1, .int v1), (2, .int v2), (3, .int v3)]) hC dX0_reasonFor_76 5 rfl rfl (by decide) rfl ?_
        refine r_goto 5 hC dX0_reasonFor_79 (by decide) ?_
        refine r_L [2, 3, 4, 5, 0] rfl ?_
        exact hk5 _ _ _ hf
      · have hf := if_F hf h
        refine r_iload hC dX0_reasonFor_66 0 rfl ?_
        refine r_bipush (v := 12) hC dX0_reasonFor_68 rfl ?_
        refine r_irem hC dX0_reasonFor_70 (by decide) ?_
        refine r_if_ne 76 hC dX0_reasonFor_71 (by decide) (fun h => ?_) (fun h => ?_)
        · have hf := if_F hf h
          refine r_iinc (v := v4 + 1) (L' := [(4, .int (v4 + 1)), (5, .int (if 0 ≤ ((M (iCh b0 + 2) (Int32.toNatClampNeg v1)) - (M (iCh b0 + 2) (Int32.toNatClampNeg v4))) then ((M (iCh b0 + 2) (Int32.toNatClampNeg v1)) - (M (iCh b0 + 2) (Int32.toNatClampNeg v4))) else 0 - ((M (iCh b0 + 2) (Int32.toNatClampNeg v1)) - (M (iCh b0 + 2) (Int32.toNatClampNeg v4))))), (0, .ref (Z.1 (iCh b0))), (1, .int v1), (2, .int v2), (3, .int v3)]) hC dX0_reasonFor_76 5 rfl rfl (by decide) rfl ?_
          refine r_goto 5 hC dX0_reasonFor_79 (by decide) ?_
          refine r_L [2, 3, 4, 5, 0] rfl ?_
          exact hk5 _ _ _ hf
        · have hf := if_T hf h
          refine r_iconst (v := 2) hC dX0_reasonFor_74 rfl ?_
          refine r_istore_n (L' := [(3, .int 2), (5, .int (if 0 ≤ ((M (iCh b0 + 2) (Int32.toNatClampNeg v1)) - (M (iCh b0 + 2) (Int32.toNatClampNeg v4))) then ((M (iCh b0 + 2) (Int32.toNatClampNeg v1)) - (M (iCh b0 + 2) (Int32.toNatClampNeg v4))) else 0 - ((M (iCh b0 + 2) (Int32.toNatClampNeg v1)) - (M (iCh b0 + 2) (Int32.toNatClampNeg v4))))), (0, .ref (Z.1 (iCh b0))), (1, .int v1), (2, .int v2), (4, .int v4)]) hC dX0_reasonFor_75 (by decide) rfl ?_
          refine r_iinc (v := v4 + 1) (L' := [(4, .int (v4 + 1)), (3, .int 2), (5, .int (if 0 ≤ ((M (iCh b0 + 2) (Int32.toNatClampNeg v1)) - (M (iCh b0 + 2) (Int32.toNatClampNeg v4))) then ((M (iCh b0 + 2) (Int32.toNatClampNeg v1)) - (M (iCh b0 + 2) (Int32.toNatClampNeg v4))) else 0 - ((M (iCh b0 + 2) (Int32.toNatClampNeg v1)) - (M (iCh b0 + 2) (Int32.toNatClampNeg v4))))), (0, .ref (Z.1 (iCh b0))), (1, .int v1), (2, .int v2)]) hC dX0_reasonFor_76 5 rfl rfl (by decide) rfl ?_
          refine r_goto 5 hC dX0_reasonFor_79 (by decide) ?_
          refine r_L [3, 4, 5, 1, 0] rfl ?_
          exact hk5 _ _ _ hf
    · have hf := if_T hf h
      refine r_iconst (v := 1) hC dX0_reasonFor_57 rfl ?_
      exact r_iret hf hC (by decide) (by decide) dX0_reasonFor_58
set_option maxRecDepth 20000 in
theorem w_X0_reasonFor_b5 {X : XX} {G : GG} {Z : ZZ} {r : Int32} {M' : Mem} (hC : Cx X G RX0 cX0_reasonFor (some .int) 1 0 0 6) (hz : ZOk G Z) (hZ : ZM Z) (b0 : Nat) (v1 : Int32) (v2 : Int32) (hb0 : b0 < 17) (k5 : Int32 → Int32 → Mem → Option (Int32 × Mem)) (hk5 : ∀ (u3 : Int32) (u4 : Int32) (M : Mem), k5 u3 u4 M = some (r, M') → V X G Z M 0 0 (QN X G (QcI G Z r M') 0 0) 5 [(0, .ref (Z.1 (iCh b0))), (1, .int v1), (2, .int v2), (3, .int u3), (4, .int u4)] []) (v3 : Int32) (v4 : Int32) (M : Mem) (hf : f_X0_reasonFor_b5 b0 v1 v2 k5 v3 v4 M = some (r, M')) : V X G Z M 0 0 (QN X G (QcI G Z r M') 0 0) 5 [(0, .ref (Z.1 (iCh b0))), (1, .int v1), (2, .int v2), (3, .int v3), (4, .int v4)] [] := by
  unfold f_X0_reasonFor_b5 at hf
  refine r_iload hC dX0_reasonFor_5 4 rfl ?_
  refine r_iconst (v := 4) hC dX0_reasonFor_7 rfl ?_
  refine r_icmp_ge 82 hC dX0_reasonFor_8 (by decide) (fun h => ?_) (fun h => ?_)
  · have hf := if_T hf h
    refine r_iload_n hC dX0_reasonFor_82 3 rfl ?_
    exact r_iret hf hC (by decide) (by decide) dX0_reasonFor_83
  · have hf := if_F hf h
    refine r_iload hC dX0_reasonFor_11 4 rfl ?_
    refine r_iload_n hC dX0_reasonFor_13 1 rfl ?_
    refine r_icmp_lt 23 hC dX0_reasonFor_14 (by decide) (fun h => ?_) (fun h => ?_)
    · have hf := if_T hf h
      exact w_X0_reasonFor_b23 hC hz hZ b0 v1 v2 v3 v4 hb0 k5 hk5 _ hf
    · have hf := if_F hf h
      refine r_iload hC dX0_reasonFor_17 4 rfl ?_
      refine r_iload_n hC dX0_reasonFor_19 2 rfl ?_
      refine r_icmp_ne 76 hC dX0_reasonFor_20 (by decide) (fun h => ?_) (fun h => ?_)
      · have hf := if_F hf h
        refine r_iinc (v := v4 + 1) (L' := [(4, .int (v4 + 1)), (0, .ref (Z.1 (iCh b0))), (1, .int v1), (2, .int v2), (3, .int v3)]) hC dX0_reasonFor_76 4 rfl rfl (by decide) rfl ?_
        refine r_goto 5 hC dX0_reasonFor_79 (by decide) ?_
        refine r_L [1, 2, 3, 4, 0] rfl ?_
        exact hk5 _ _ _ hf
      · have hf := if_T hf h
        exact w_X0_reasonFor_b23 hC hz hZ b0 v1 v2 v3 v4 hb0 k5 hk5 _ hf
set_option maxRecDepth 20000 in
theorem w_X0_reasonFor {X : XX} {G : GG} {Z : ZZ} (hC : Cx X G RX0 cX0_reasonFor (some .int) 1 0 0 6) (hz : ZOk G Z) (hZ : ZM Z) (b0 : Nat) (v1 : Int32) (v2 : Int32) (M : Mem) (hb0 : b0 < 17) {r : Int32} {M' : Mem} (hf : f_X0_reasonFor b0 v1 v2 M = some (r, M')) : V X G Z M 0 0 (QN X G (QcI G Z r M') 0 0) 0 [(0, .ref (Z.1 (iCh b0))), (1, .int v1), (2, .int v2)] [] := by
  unfold f_X0_reasonFor at hf
  refine r_iconst (v := 0) hC dX0_reasonFor_0 rfl ?_
  refine r_istore_n (L' := [(3, .int 0), (0, .ref (Z.1 (iCh b0))), (1, .int v1), (2, .int v2)]) hC dX0_reasonFor_1 (by decide) rfl ?_
  refine r_iconst (v := 0) hC dX0_reasonFor_2 rfl ?_
  refine r_istore (L' := [(4, .int 0), (3, .int 0), (0, .ref (Z.1 (iCh b0))), (1, .int v1), (2, .int v2)]) hC dX0_reasonFor_3 (by decide) rfl ?_
  refine r_L [2, 3, 4, 1, 0] rfl ?_
  exact lq2_ind (P := fun (u3 : Int32) (u4 : Int32) (M : Mem) => V X G Z M 0 0 (QN X G (QcI G Z r M') 0 0) 5 [(0, .ref (Z.1 (iCh b0))), (1, .int v1), (2, .int v2), (3, .int u3), (4, .int u4)] []) (fun kk hkk u3 u4 M hf => w_X0_reasonFor_b5 hC hz hZ b0 v1 v2 hb0 kk hkk u3 u4 M hf) _ _ _ _ hf
set_option maxRecDepth 20000 in
theorem c_X0_reasonFor {l : Launch} (hl : l.stackTraces = false) {G : GG} {Z : ZZ} (hz : ZOk G Z) (hZ : ZM Z) (b0 : Nat) (v1 : Int32) (v2 : Int32) (M : Mem) (hb0 : b0 < 17) (r : Int32) (M' : Mem) (hf : f_X0_reasonFor b0 v1 v2 M = some (r, M')) : CN (QcI G Z r M') l G Z yX0_reasonFor cX0_reasonFor 6 (some .int) 1 [.ref (Z.1 (iCh b0)), .int v1, .int v2] M :=
  CN.of [(0, .ref (Z.1 (iCh b0))), (1, .int v1), (2, .int v2)] hl (by decide +kernel) (Nat.le_of_ble_eq_true rfl) rfl (fun _ hC => w_X0_reasonFor hC hz hZ b0 v1 v2 M hb0 hf)
set_option maxRecDepth 20000 in
theorem w_X0_countOf {X : XX} {G : GG} {Z : ZZ} (hC : Cx X G RX0 cX0_countOf (some .int) 0 0 0 3) (hz : ZOk G Z) (hZ : ZM Z) (b0 : Nat) (v1 : Int32) (v2 : Int32) (M : Mem) (hb0 : b0 < 17) {r : Int32} {M' : Mem} (hf : f_X0_countOf b0 v1 v2 M = some (r, M')) : V X G Z M 0 0 (QN X G (QcI G Z r M') 0 0) 0 [(0, .ref (Z.1 (iCh b0))), (1, .int v1), (2, .int v2)] [] := by
  unfold f_X0_countOf at hf
  refine r_iload_n hC dX0_countOf_0 1 rfl ?_
  refine r_if_ne 8 hC dX0_countOf_1 (by decide) (fun h => ?_) (fun h => ?_)
  · have hf := if_F hf h
    refine r_aload_n hC dX0_countOf_8 0 rfl ?_
    refine gf_X0_87 hC (z_C hZ hb0) rfl dX0_countOf_9 ?_
    refine r_iload_n hC dX0_countOf_12 2 rfl ?_
    refine r_isub hC dX0_countOf_13 ?_
    exact r_iret hf hC (by decide) (by decide) dX0_countOf_14
  · have hf := if_T hf h
    refine r_iload_n hC dX0_countOf_4 2 rfl ?_
    refine r_goto 14 hC dX0_countOf_5 (by decide) ?_
    exact r_iret hf hC (by decide) (by decide) dX0_countOf_14
set_option maxRecDepth 20000 in
theorem c_X0_countOf {l : Launch} (hl : l.stackTraces = false) {G : GG} {Z : ZZ} (hz : ZOk G Z) (hZ : ZM Z) (b0 : Nat) (v1 : Int32) (v2 : Int32) (M : Mem) (hb0 : b0 < 17) (r : Int32) (M' : Mem) (hf : f_X0_countOf b0 v1 v2 M = some (r, M')) : CN (QcI G Z r M') l G Z yX0_countOf cX0_countOf 3 (some .int) 0 [.ref (Z.1 (iCh b0)), .int v1, .int v2] M :=
  CN.of [(0, .ref (Z.1 (iCh b0))), (1, .int v1), (2, .int v2)] hl (by decide +kernel) (Nat.le_of_ble_eq_true rfl) rfl (fun _ hC => w_X0_countOf hC hz hZ b0 v1 v2 M hb0 hf)
set_option maxRecDepth 20000 in
theorem w_X0_stavesOf {X : XX} {G : GG} {Z : ZZ} (hC : Cx X G RX0 cX0_stavesOf (some .int) 0 0 0 3) (hz : ZOk G Z) (hZ : ZM Z) (b0 : Nat) (v1 : Int32) (v2 : Int32) (M : Mem) (hb0 : b0 < 17) {r : Int32} {M' : Mem} (hf : f_X0_stavesOf b0 v1 v2 M = some (r, M')) : V X G Z M 0 0 (QN X G (QcI G Z r M') 0 0) 0 [(0, .ref (Z.1 (iCh b0))), (1, .int v1), (2, .int v2)] [] := by
  unfold f_X0_stavesOf at hf
  refine r_iload_n hC dX0_stavesOf_0 1 rfl ?_
  refine r_if_ne 13 hC dX0_stavesOf_1 (by decide) (fun h => ?_) (fun h => ?_)
  · have hf := if_F hf h
    refine r_aload_n hC dX0_stavesOf_13 0 rfl ?_
    refine gf_X0_24 hC (z_C hZ hb0) rfl dX0_stavesOf_14 ?_
    refine r_aload_n hC dX0_stavesOf_17 0 rfl ?_
    refine gf_X0_87 hC (z_C hZ hb0) rfl dX0_stavesOf_18 ?_
    have hin := if_K hf
    have hf := if_V hf
    refine r_iald hC (z_Cj hZ hb0 5 (by decide) rfl) (inb_vp hin) dX0_stavesOf_21 ?_
    refine r_aload_n hC dX0_stavesOf_22 0 rfl ?_
    refine gf_X0_24 hC (z_C hZ hb0) rfl dX0_stavesOf_23 ?_
    refine r_iload_n hC dX0_stavesOf_26 2 rfl ?_
    have hin := if_K hf
    have hf := if_V hf
    refine r_iald hC (z_Cj hZ hb0 5 (by decide) rfl) (inb_vp hin) dX0_stavesOf_27 ?_
    refine r_iconst (v := (-1)) hC dX0_stavesOf_28 rfl ?_
    refine r_ixor hC dX0_stavesOf_29 ?_
    refine r_iand hC dX0_stavesOf_30 ?_
    exact r_iret hf hC (by decide) (by decide) dX0_stavesOf_31
  · have hf := if_T hf h
    refine r_aload_n hC dX0_stavesOf_4 0 rfl ?_
    refine gf_X0_24 hC (z_C hZ hb0) rfl dX0_stavesOf_5 ?_
    refine r_iload_n hC dX0_stavesOf_8 2 rfl ?_
    have hin := if_K hf
    have hf := if_V hf
    refine r_iald hC (z_Cj hZ hb0 5 (by decide) rfl) (inb_vp hin) dX0_stavesOf_9 ?_
    refine r_goto 31 hC dX0_stavesOf_10 (by decide) ?_
    exact r_iret hf hC (by decide) (by decide) dX0_stavesOf_31
set_option maxRecDepth 20000 in
theorem c_X0_stavesOf {l : Launch} (hl : l.stackTraces = false) {G : GG} {Z : ZZ} (hz : ZOk G Z) (hZ : ZM Z) (b0 : Nat) (v1 : Int32) (v2 : Int32) (M : Mem) (hb0 : b0 < 17) (r : Int32) (M' : Mem) (hf : f_X0_stavesOf b0 v1 v2 M = some (r, M')) : CN (QcI G Z r M') l G Z yX0_stavesOf cX0_stavesOf 3 (some .int) 0 [.ref (Z.1 (iCh b0)), .int v1, .int v2] M :=
  CN.of [(0, .ref (Z.1 (iCh b0))), (1, .int v1), (2, .int v2)] hl (by decide +kernel) (Nat.le_of_ble_eq_true rfl) rfl (fun _ hC => w_X0_stavesOf hC hz hZ b0 v1 v2 M hb0 hf)
set_option maxRecDepth 20000 in
theorem w_X0_canPlay_b49 {X : XX} {G : GG} {Z : ZZ} {r : Int32} {M' : Mem} (hC : Cx X G RX0 cX0_canPlay (some .boolean) 1 0 0 4) (hz : ZOk G Z) (hZ : ZM Z) (b0 : Nat) (v1 : Int32) (v2 : Int32) (hb0 : b0 < 17) (s0 : Int32) (M : Mem) (hf : f_X0_canPlay_b49 b0 v1 v2 s0 M = some (r, M')) : V X G Z M 0 0 (QN X G (QcI G Z r M') 0 0) 49 [(0, .ref (Z.1 (iCh b0))), (1, .int v1), (2, .int v2)] [.int s0] := by
  unfold f_X0_canPlay_b49 at hf
  refine r_istore_n (L' := [(3, .int s0), (0, .ref (Z.1 (iCh b0))), (1, .int v1), (2, .int v2)]) hC dX0_canPlay_49 (by decide) rfl ?_
  refine r_aload_n hC dX0_canPlay_50 1 rfl ?_
  refine gf_X0_32 hC (z_C hZ hb0) rfl dX0_canPlay_51 ?_
  refine r_iload_n hC dX0_canPlay_54 2 rfl ?_
  have hin5 := if_K hf
  have hf := if_V hf
  refine r_gald hC (z_Cj hZ hb0 9 (by decide) rfl) (inb_vp hin5) rfl dX0_canPlay_55 ?_
  refine r_iload_n hC dX0_canPlay_56 3 rfl ?_
  have hin := if_K hf
  have hf := if_V hf
  refine r_iald hC (z_Wh hZ hb0 (inb_lt hin5)) (inb_vp hin) dX0_canPlay_57 ?_
  refine r_iload_n hC dX0_canPlay_58 0 rfl ?_
  refine r_icmp_gt 66 hC dX0_canPlay_59 (by decide) (fun h => ?_) (fun h => ?_)
  · have hf := if_T hf h
    refine r_iconst (v := 0) hC dX0_canPlay_66 rfl ?_
    exact r_zret hf hC rfl rfl (by decide) (by decide) dX0_canPlay_67
  · have hf := if_F hf h
    refine r_iconst (v := 1) hC dX0_canPlay_62 rfl ?_
    refine r_goto 67 hC dX0_canPlay_63 (by decide) ?_
    exact r_zret hf hC rfl rfl (by decide) (by decide) dX0_canPlay_67
set_option maxRecDepth 20000 in
theorem w_X0_canPlay {X : XX} {G : GG} {Z : ZZ} (hC : Cx X G RX0 cX0_canPlay (some .boolean) 1 0 0 4) (hz : ZOk G Z) (hZ : ZM Z) (b0 : Nat) (v1 : Int32) (v2 : Int32) (M : Mem) (hb0 : b0 < 17) {r : Int32} {M' : Mem} (hf : f_X0_canPlay b0 v1 v2 M = some (r, M')) : V X G Z M 0 0 (QN X G (QcI G Z r M') 0 0) 0 [(0, .ref (Z.1 (iCh b0))), (1, .int v1), (2, .int v2)] [] := by
  unfold f_X0_canPlay at hf
  refine r_aload_n hC dX0_canPlay_0 0 rfl ?_
  refine r_iload_n hC dX0_canPlay_1 1 rfl ?_
  refine r_iload_n hC dX0_canPlay_2 2 rfl ?_
  refine r_callVI [] (fun r M1 h => c_X0_countOf (cx_st hC) hz hZ b0 v1 v2 _ hb0 r M1 h) hf cs_X0_105 hC (z_C hZ hb0) (q0 := (RX0, TX0, 14)) rfl rfl [.int v1, .int v2] rfl rfl rfl (by decide) (by decide) (Nat.le_of_ble_eq_true rfl) (by decide) (by decide) dX0_canPlay_3 (fun x1 M2 hf => ?_)
  refine r_aload_n hC dX0_canPlay_6 0 rfl ?_
  refine gf_X0_63 hC (z_C hZ hb0) rfl dX0_canPlay_7 ?_
  refine r_icmp_le 15 hC dX0_canPlay_10 (by decide) (fun h => ?_) (fun h => ?_)
  · have hf := if_T hf h
    refine r_aload_n hC dX0_canPlay_15 0 rfl ?_
    refine r_iload_n hC dX0_canPlay_16 1 rfl ?_
    refine r_iload_n hC dX0_canPlay_17 2 rfl ?_
    refine r_callVI [] (fun r M1 h => c_X0_stavesOf (cx_st hC) hz hZ b0 v1 v2 _ hb0 r M1 h) hf cs_X0_108 hC (z_C hZ hb0) (q0 := (RX0, TX0, 14)) rfl rfl [.int v1, .int v2] rfl rfl rfl (by decide) (by decide) (Nat.le_of_ble_eq_true rfl) (by decide) (by decide) dX0_canPlay_18 (fun x3 M4 hf => ?_)
    refine r_aload_n hC dX0_canPlay_21 0 rfl ?_
    refine gf_X0_73 hC (z_C hZ hb0) rfl dX0_canPlay_22 ?_
    refine r_iand hC dX0_canPlay_25 ?_
    refine r_if_ne 43 hC dX0_canPlay_26 (by decide) (fun h => ?_) (fun h => ?_)
    · have hf := if_F hf h
      refine r_aload_n hC dX0_canPlay_43 0 rfl ?_
      refine gf_X0_9 hC (z_C hZ hb0) rfl dX0_canPlay_44 ?_
      refine r_iload_n hC dX0_canPlay_47 1 rfl ?_
      have hin := if_K hf
      have hf := if_V hf
      refine r_iald hC (z_Cj hZ hb0 1 (by decide) rfl) (inb_vp hin) dX0_canPlay_48 ?_
      exact w_X0_canPlay_b49 hC hz hZ b0 v1 v2 hb0 (M4 (iCh b0 + 1) (Int32.toNatClampNeg v1)) _ hf
    · have hf := if_T hf h
      refine r_aload_n hC dX0_canPlay_29 0 rfl ?_
      refine gf_X0_9 hC (z_C hZ hb0) rfl dX0_canPlay_30 ?_
      refine r_iload_n hC dX0_canPlay_33 1 rfl ?_
      have hin := if_K hf
      have hf := if_V hf
      refine r_iald hC (z_Cj hZ hb0 1 (by decide) rfl) (inb_vp hin) dX0_canPlay_34 ?_
      refine r_aload_n hC dX0_canPlay_35 0 rfl ?_
      refine gf_X0_66 hC (z_C hZ hb0) rfl dX0_canPlay_36 ?_
      refine r_iadd hC dX0_canPlay_39 ?_
      refine r_goto 49 hC dX0_canPlay_40 (by decide) ?_
      exact w_X0_canPlay_b49 hC hz hZ b0 v1 v2 hb0 ((M4 (iCh b0 + 1) (Int32.toNatClampNeg v1)) + (M4 (iCh b0) 2)) _ hf
  · have hf := if_F hf h
    refine r_iconst (v := 0) hC dX0_canPlay_13 rfl ?_
    exact r_zret hf hC rfl rfl (by decide) (by decide) dX0_canPlay_14
set_option maxRecDepth 20000 in
theorem c_X0_canPlay {l : Launch} (hl : l.stackTraces = false) {G : GG} {Z : ZZ} (hz : ZOk G Z) (hZ : ZM Z) (b0 : Nat) (v1 : Int32) (v2 : Int32) (M : Mem) (hb0 : b0 < 17) (r : Int32) (M' : Mem) (hf : f_X0_canPlay b0 v1 v2 M = some (r, M')) : CN (QcI G Z r M') l G Z yX0_canPlay cX0_canPlay 4 (some .boolean) 1 [.ref (Z.1 (iCh b0)), .int v1, .int v2] M :=
  CN.of [(0, .ref (Z.1 (iCh b0))), (1, .int v1), (2, .int v2)] hl (by decide +kernel) (Nat.le_of_ble_eq_true rfl) rfl (fun _ hC => w_X0_canPlay hC hz hZ b0 v1 v2 M hb0 hf)
set_option maxRecDepth 20000 in
theorem w_X0_insert_b51 {X : XX} {G : GG} {Z : ZZ} {r : Unit} {M' : Mem} (hC : Cx X G RX0 cX0_insert none 0 0 0 3) (hz : ZOk G Z) (hZ : ZM Z) (b0 : Nat) (v1 : Int32) (v2 : Int32) (hb0 : b0 < 17) (M : Mem) (hf : f_X0_insert_b51 b0 v1 v2 M = some (r, M')) : V X G Z M 0 0 (QN X G (QcV G Z r M') 0 0) 51 [(0, .ref (Z.1 (iCh b0))), (1, .int v1), (2, .int v2)] [] := by
  unfold f_X0_insert_b51 at hf
  refine r_aload_n hC dX0_insert_51 0 rfl ?_
  refine gf_X0_21 hC (z_C hZ hb0) rfl dX0_insert_52 ?_
  refine r_iload_n hC dX0_insert_55 2 rfl ?_
  refine r_iload_n hC dX0_insert_56 1 rfl ?_
  have hin := if_K hf
  have hf := if_V hf
  refine r_iast hC hz (z_Cj hZ hb0 4 (by decide) rfl) (inb_vp hin) dX0_insert_57 ?_
  refine r_aload_n hC dX0_insert_58 0 rfl ?_
  refine r_dup hC dX0_insert_59 rfl ?_
  refine gf_X0_87 hC (z_C hZ hb0) rfl dX0_insert_60 ?_
  refine r_iconst (v := 1) hC dX0_insert_63 rfl ?_
  refine r_iadd hC dX0_insert_64 ?_
  refine pf_X0_87 hC hz (z_C hZ hb0) rfl dX0_insert_65 ?_
  exact r_vret hf hC (by decide) (by decide) dX0_insert_68
set_option maxRecDepth 20000 in
theorem w_X0_insert_b5 {X : XX} {G : GG} {Z : ZZ} {r : Unit} {M' : Mem} (hC : Cx X G RX0 cX0_insert none 0 0 0 3) (hz : ZOk G Z) (hZ : ZM Z) (b0 : Nat) (v1 : Int32) (hb0 : b0 < 17) (k5 : Int32 → Mem → Option (Unit × Mem)) (hk5 : ∀ (u2 : Int32) (M : Mem), k5 u2 M = some (r, M') → V X G Z M 0 0 (QN X G (QcV G Z r M') 0 0) 5 [(0, .ref (Z.1 (iCh b0))), (1, .int v1), (2, .int u2)] []) (v2 : Int32) (M : Mem) (hf : f_X0_insert_b5 b0 v1 k5 v2 M = some (r, M')) : V X G Z M 0 0 (QN X G (QcV G Z r M') 0 0) 5 [(0, .ref (Z.1 (iCh b0))), (1, .int v1), (2, .int v2)] [] := by
  unfold f_X0_insert_b5 at hf
  refine r_iload_n hC dX0_insert_5 2 rfl ?_
  refine r_if_le 51 hC dX0_insert_6 (by decide) (fun h => ?_) (fun h => ?_)
  · have hf := if_T hf h
    exact w_X0_insert_b51 hC hz hZ b0 v1 v2 hb0 _ hf
  · have hf := if_F hf h
    refine r_aload_n hC dX0_insert_9 0 rfl ?_
    refine gf_X0_15 hC (z_C hZ hb0) rfl dX0_insert_10 ?_
    refine r_aload_n hC dX0_insert_13 0 rfl ?_
    refine gf_X0_21 hC (z_C hZ hb0) rfl dX0_insert_14 ?_
    refine r_iload_n hC dX0_insert_17 2 rfl ?_
    refine r_iconst (v := 1) hC dX0_insert_18 rfl ?_
    refine r_isub hC dX0_insert_19 ?_
    have hin := if_K hf
    have hf := if_V hf
    refine r_iald hC (z_Cj hZ hb0 4 (by decide) rfl) (inb_vp hin) dX0_insert_20 ?_
    have hin := if_K hf
    have hf := if_V hf
    refine r_iald hC (z_Cj hZ hb0 2 (by decide) rfl) (inb_vp hin) dX0_insert_21 ?_
    refine r_aload_n hC dX0_insert_22 0 rfl ?_
    refine gf_X0_15 hC (z_C hZ hb0) rfl dX0_insert_23 ?_
    refine r_iload_n hC dX0_insert_26 1 rfl ?_
    have hin := if_K hf
    have hf := if_V hf
    refine r_iald hC (z_Cj hZ hb0 2 (by decide) rfl) (inb_vp hin) dX0_insert_27 ?_
    refine r_icmp_le 51 hC dX0_insert_28 (by decide) (fun h => ?_) (fun h => ?_)
    · have hf := if_T hf h
      exact w_X0_insert_b51 hC hz hZ b0 v1 v2 hb0 _ hf
    · have hf := if_F hf h
      refine r_aload_n hC dX0_insert_31 0 rfl ?_
      refine gf_X0_21 hC (z_C hZ hb0) rfl dX0_insert_32 ?_
      refine r_iload_n hC dX0_insert_35 2 rfl ?_
      refine r_aload_n hC dX0_insert_36 0 rfl ?_
      refine gf_X0_21 hC (z_C hZ hb0) rfl dX0_insert_37 ?_
      refine r_iload_n hC dX0_insert_40 2 rfl ?_
      refine r_iconst (v := 1) hC dX0_insert_41 rfl ?_
      refine r_isub hC dX0_insert_42 ?_
      have hin := if_K hf
      have hf := if_V hf
      refine r_iald hC (z_Cj hZ hb0 4 (by decide) rfl) (inb_vp hin) dX0_insert_43 ?_
      have hin := if_K hf
      have hf := if_V hf
      refine r_iast hC hz (z_Cj hZ hb0 4 (by decide) rfl) (inb_vp hin) dX0_insert_44 ?_
      refine r_iinc (v := v2 + (-1)) (L' := [(2, .int (v2 + (-1))), (0, .ref (Z.1 (iCh b0))), (1, .int v1)]) hC dX0_insert_45 2 rfl rfl (by decide) rfl ?_
      refine r_goto 5 hC dX0_insert_48 (by decide) ?_
      refine r_L [1, 2, 0] rfl ?_
      exact hk5 _ _ hf
set_option maxRecDepth 20000 in
theorem w_X0_insert {X : XX} {G : GG} {Z : ZZ} (hC : Cx X G RX0 cX0_insert none 0 0 0 3) (hz : ZOk G Z) (hZ : ZM Z) (b0 : Nat) (v1 : Int32) (M : Mem) (hb0 : b0 < 17) {r : Unit} {M' : Mem} (hf : f_X0_insert b0 v1 M = some (r, M')) : V X G Z M 0 0 (QN X G (QcV G Z r M') 0 0) 0 [(0, .ref (Z.1 (iCh b0))), (1, .int v1)] [] := by
  unfold f_X0_insert at hf
  refine r_aload_n hC dX0_insert_0 0 rfl ?_
  refine gf_X0_87 hC (z_C hZ hb0) rfl dX0_insert_1 ?_
  refine r_istore_n (L' := [(2, .int (M (iCh b0) 9)), (0, .ref (Z.1 (iCh b0))), (1, .int v1)]) hC dX0_insert_4 (by decide) rfl ?_
  refine r_L [1, 2, 0] rfl ?_
  exact lq1_ind (P := fun (u2 : Int32) (M : Mem) => V X G Z M 0 0 (QN X G (QcV G Z r M') 0 0) 5 [(0, .ref (Z.1 (iCh b0))), (1, .int v1), (2, .int u2)] []) (fun kk hkk u2 M hf => w_X0_insert_b5 hC hz hZ b0 v1 hb0 kk hkk u2 M hf) _ _ _ hf
set_option maxRecDepth 20000 in
theorem c_X0_insert {l : Launch} (hl : l.stackTraces = false) {G : GG} {Z : ZZ} (hz : ZOk G Z) (hZ : ZM Z) (b0 : Nat) (v1 : Int32) (M : Mem) (hb0 : b0 < 17) (r : Unit) (M' : Mem) (hf : f_X0_insert b0 v1 M = some (r, M')) : CN (QcV G Z r M') l G Z yX0_insert cX0_insert 3 none 0 [.ref (Z.1 (iCh b0)), .int v1] M :=
  CN.of [(0, .ref (Z.1 (iCh b0))), (1, .int v1)] hl (by decide +kernel) (Nat.le_of_ble_eq_true rfl) rfl (fun _ hC => w_X0_insert hC hz hZ b0 v1 M hb0 hf)
set_option maxRecDepth 20000 in
theorem w_X0_measure {X : XX} {G : GG} {Z : ZZ} (hC : Cx X G RX0 cX0_measure none 0 0 0 5) (hz : ZOk G Z) (hZ : ZM Z) (b0 : Nat) (v1 : Int32) (v2 : Int32) (v3 : Int32) (v4 : Int32) (M : Mem) (hb0 : b0 < 17) {r : Unit} {M' : Mem} (hf : f_X0_measure b0 v1 v2 v3 v4 M = some (r, M')) : V X G Z M 0 0 (QN X G (QcV G Z r M') 0 0) 0 [(0, .ref (Z.1 (iCh b0))), (1, .int v1), (2, .int v2), (3, .int v3), (4, .int v4)] [] := by
  unfold f_X0_measure at hf
  refine r_iload_n hC dX0_measure_0 3 rfl ?_
  refine r_iload hC dX0_measure_1 4 rfl ?_
  refine r_icmp_ge 62 hC dX0_measure_3 (by decide) (fun h => ?_) (fun h => ?_)
  · have hf := if_T hf h
    refine r_aload_n hC dX0_measure_62 0 rfl ?_
    refine gf_X0_29 hC (z_C hZ hb0) rfl dX0_measure_63 ?_
    refine r_iload_n hC dX0_measure_66 1 rfl ?_
    have hin1 := if_K hf
    have hf := if_V hf
    refine r_gald hC (z_Cj hZ hb0 6 (by decide) rfl) (inb_vp hin1) rfl dX0_measure_67 ?_
    refine r_iload_n hC dX0_measure_68 2 rfl ?_
    refine r_bipush (v := (-9)) hC dX0_measure_69 rfl ?_
    have hin := if_K hf
    have hf := if_V hf
    refine r_iast hC hz (z_Ph hZ hb0 (inb_lt hin1)) (inb_vp hin) dX0_measure_71 ?_
    refine r_aload_n hC dX0_measure_72 0 rfl ?_
    refine gf_X0_32 hC (z_C hZ hb0) rfl dX0_measure_73 ?_
    refine r_iload_n hC dX0_measure_76 1 rfl ?_
    have hin2 := if_K hf
    have hf := if_V hf
    refine r_gald hC (z_Cj hZ hb0 9 (by decide) rfl) (inb_vp hin2) rfl dX0_measure_77 ?_
    refine r_iload_n hC dX0_measure_78 2 rfl ?_
    refine r_iconst (v := 0) hC dX0_measure_79 rfl ?_
    have hin := if_K hf
    have hf := if_V hf
    refine r_iast hC hz (z_Wh hZ hb0 (inb_lt hin2)) (inb_vp hin) dX0_measure_80 ?_
    exact r_vret hf hC (by decide) (by decide) dX0_measure_81
  · have hf := if_F hf h
    refine r_aload_n hC dX0_measure_6 0 rfl ?_
    refine gf_X0_29 hC (z_C hZ hb0) rfl dX0_measure_7 ?_
    refine r_iload_n hC dX0_measure_10 1 rfl ?_
    have hin3 := if_K hf
    have hf := if_V hf
    refine r_gald hC (z_Cj hZ hb0 6 (by decide) rfl) (inb_vp hin3) rfl dX0_measure_11 ?_
    refine r_iload_n hC dX0_measure_12 2 rfl ?_
    refine r_aload_n hC dX0_measure_13 0 rfl ?_
    refine gf_X0_15 hC (z_C hZ hb0) rfl dX0_measure_14 ?_
    refine r_aload_n hC dX0_measure_17 0 rfl ?_
    refine gf_X0_21 hC (z_C hZ hb0) rfl dX0_measure_18 ?_
    refine r_iload_n hC dX0_measure_21 3 rfl ?_
    have hin := if_K hf
    have hf := if_V hf
    refine r_iald hC (z_Cj hZ hb0 4 (by decide) rfl) (inb_vp hin) dX0_measure_22 ?_
    have hin := if_K hf
    have hf := if_V hf
    refine r_iald hC (z_Cj hZ hb0 2 (by decide) rfl) (inb_vp hin) dX0_measure_23 ?_
    have hin := if_K hf
    have hf := if_V hf
    refine r_iast hC hz (z_Ph hZ hb0 (inb_lt hin3)) (inb_vp hin) dX0_measure_24 ?_
    refine r_aload_n hC dX0_measure_25 0 rfl ?_
    refine gf_X0_32 hC (z_C hZ hb0) rfl dX0_measure_26 ?_
    refine r_iload_n hC dX0_measure_29 1 rfl ?_
    have hin4 := if_K hf
    have hf := if_V hf
    refine r_gald hC (z_Cj hZ hb0 9 (by decide) rfl) (inb_vp hin4) rfl dX0_measure_30 ?_
    refine r_iload_n hC dX0_measure_31 2 rfl ?_
    refine r_aload_n hC dX0_measure_32 0 rfl ?_
    refine gf_X0_15 hC (z_C hZ hb0) rfl dX0_measure_33 ?_
    refine r_aload_n hC dX0_measure_36 0 rfl ?_
    refine gf_X0_21 hC (z_C hZ hb0) rfl dX0_measure_37 ?_
    refine r_iload hC dX0_measure_40 4 rfl ?_
    refine r_iconst (v := 1) hC dX0_measure_42 rfl ?_
    refine r_isub hC dX0_measure_43 ?_
    have hin := if_K hf
    have hf := if_V hf
    refine r_iald hC (z_Cj hZ hb0 4 (by decide) rfl) (inb_vp hin) dX0_measure_44 ?_
    have hin := if_K hf
    have hf := if_V hf
    refine r_iald hC (z_Cj hZ hb0 2 (by decide) rfl) (inb_vp hin) dX0_measure_45 ?_
    refine r_aload_n hC dX0_measure_46 0 rfl ?_
    refine gf_X0_15 hC (z_C hZ hb0) rfl dX0_measure_47 ?_
    refine r_aload_n hC dX0_measure_50 0 rfl ?_
    refine gf_X0_21 hC (z_C hZ hb0) rfl dX0_measure_51 ?_
    refine r_iload_n hC dX0_measure_54 3 rfl ?_
    have hin := if_K hf
    have hf := if_V hf
    refine r_iald hC (z_Cj hZ hb0 4 (by decide) rfl) (inb_vp hin) dX0_measure_55 ?_
    have hin := if_K hf
    have hf := if_V hf
    refine r_iald hC (z_Cj hZ hb0 2 (by decide) rfl) (inb_vp hin) dX0_measure_56 ?_
    refine r_isub hC dX0_measure_57 ?_
    have hin := if_K hf
    have hf := if_V hf
    refine r_iast hC hz (z_Wh hZ hb0 (inb_lt hin4)) (inb_vp hin) dX0_measure_58 ?_
    refine r_goto 81 hC dX0_measure_59 (by decide) ?_
    exact r_vret hf hC (by decide) (by decide) dX0_measure_81
set_option maxRecDepth 20000 in
theorem c_X0_measure {l : Launch} (hl : l.stackTraces = false) {G : GG} {Z : ZZ} (hz : ZOk G Z) (hZ : ZM Z) (b0 : Nat) (v1 : Int32) (v2 : Int32) (v3 : Int32) (v4 : Int32) (M : Mem) (hb0 : b0 < 17) (r : Unit) (M' : Mem) (hf : f_X0_measure b0 v1 v2 v3 v4 M = some (r, M')) : CN (QcV G Z r M') l G Z yX0_measure cX0_measure 5 none 0 [.ref (Z.1 (iCh b0)), .int v1, .int v2, .int v3, .int v4] M :=
  CN.of [(0, .ref (Z.1 (iCh b0))), (1, .int v1), (2, .int v2), (3, .int v3), (4, .int v4)] hl (by decide +kernel) (Nat.le_of_ble_eq_true rfl) rfl (fun _ hC => w_X0_measure hC hz hZ b0 v1 v2 v3 v4 M hb0 hf)
set_option maxRecDepth 20000 in
theorem w_X0_share_b95 {X : XX} {G : GG} {Z : ZZ} {r : Unit} {M' : Mem} (hC : Cx X G RX0 cX0_share none 2 0 0 2) (hz : ZOk G Z) (hZ : ZM Z) (b0 : Nat) (hb0 : b0 < 17) (k95 : Int32 → Mem → Option (Unit × Mem)) (hk95 : ∀ (u1 : Int32) (M : Mem), k95 u1 M = some (r, M') → V X G Z M 0 0 (QN X G (QcV G Z r M') 0 0) 95 [(0, .ref (Z.1 (iCh b0))), (1, .int u1)] []) (v1 : Int32) (M : Mem) (hf : f_X0_share_b95 b0 k95 v1 M = some (r, M')) : V X G Z M 0 0 (QN X G (QcV G Z r M') 0 0) 95 [(0, .ref (Z.1 (iCh b0))), (1, .int v1)] [] := by
  unfold f_X0_share_b95 at hf
  refine r_iload_n hC dX0_share_95 1 rfl ?_
  refine r_aload_n hC dX0_share_96 0 rfl ?_
  refine gf_X0_87 hC (z_C hZ hb0) rfl dX0_share_97 ?_
  refine r_icmp_gt 158 hC dX0_share_100 (by decide) (fun h => ?_) (fun h => ?_)
  · have hf := if_T hf h
    exact r_vret hf hC (by decide) (by decide) dX0_share_158
  · have hf := if_F hf h
    refine r_aload_n hC dX0_share_103 0 rfl ?_
    refine r_iconst (v := 0) hC dX0_share_104 rfl ?_
    refine r_iload_n hC dX0_share_105 1 rfl ?_
    refine r_iconst (v := 0) hC dX0_share_106 rfl ?_
    refine r_iload_n hC dX0_share_107 1 rfl ?_
    refine r_callVV [] (fun r M1 h => c_X0_measure (cx_st hC) hz hZ b0 0 v1 0 v1 _ hb0 r M1 h) hf cs_X0_97 hC (z_C hZ hb0) (q0 := (RX0, TX0, 14)) rfl rfl [.int 0, .int v1, .int 0, .int v1] rfl rfl rfl (by decide) (by decide) (Nat.le_of_ble_eq_true rfl) (by decide) (by decide) dX0_share_108 (fun x3 M4 hf => ?_)
    refine r_aload_n hC dX0_share_111 0 rfl ?_
    refine r_iconst (v := 1) hC dX0_share_112 rfl ?_
    refine r_iload_n hC dX0_share_113 1 rfl ?_
    refine r_iload_n hC dX0_share_114 1 rfl ?_
    refine r_aload_n hC dX0_share_115 0 rfl ?_
    refine gf_X0_87 hC (z_C hZ hb0) rfl dX0_share_116 ?_
    refine r_callVV [] (fun r M1 h => c_X0_measure (cx_st hC) hz hZ b0 1 v1 v1 (M4 (iCh b0) 9) _ hb0 r M1 h) hf cs_X0_97 hC (z_C hZ hb0) (q0 := (RX0, TX0, 14)) rfl rfl [.int 1, .int v1, .int v1, .int (M4 (iCh b0) 9)] rfl rfl rfl (by decide) (by decide) (Nat.le_of_ble_eq_true rfl) (by decide) (by decide) dX0_share_119 (fun x5 M6 hf => ?_)
    refine r_aload_n hC dX0_share_122 0 rfl ?_
    refine r_iconst (v := 0) hC dX0_share_123 rfl ?_
    refine r_iload_n hC dX0_share_124 1 rfl ?_
    refine r_callVI [] (fun r M1 h => c_X0_canPlay (cx_st hC) hz hZ b0 0 v1 _ hb0 r M1 h) hf cs_X0_101 hC (z_C hZ hb0) (q0 := (RX0, TX0, 14)) rfl rfl [.int 0, .int v1] rfl rfl rfl (by decide) (by decide) (Nat.le_of_ble_eq_true rfl) (by decide) (by decide) dX0_share_125 (fun x7 M8 hf => ?_)
    refine r_if_eq 152 hC dX0_share_128 (by decide) (fun h => ?_) (fun h => ?_)
    · have hf := if_T hf h
      refine r_iinc (v := v1 + 1) (L' := [(1, .int (v1 + 1)), (0, .ref (Z.1 (iCh b0)))]) hC dX0_share_152 1 rfl rfl (by decide) rfl ?_
      refine r_goto 95 hC dX0_share_155 (by decide) ?_
      refine r_L [1, 0] rfl ?_
      exact hk95 _ _ hf
    · have hf := if_F hf h
      refine r_aload_n hC dX0_share_131 0 rfl ?_
      refine r_iconst (v := 1) hC dX0_share_132 rfl ?_
      refine r_iload_n hC dX0_share_133 1 rfl ?_
      refine r_callVI [] (fun r M1 h => c_X0_canPlay (cx_st hC) hz hZ b0 1 v1 _ hb0 r M1 h) hf cs_X0_101 hC (z_C hZ hb0) (q0 := (RX0, TX0, 14)) rfl rfl [.int 1, .int v1] rfl rfl rfl (by decide) (by decide) (Nat.le_of_ble_eq_true rfl) (by decide) (by decide) dX0_share_134 (fun x9 M10 hf => ?_)
      refine r_if_eq 152 hC dX0_share_137 (by decide) (fun h => ?_) (fun h => ?_)
      · have hf := if_T hf h
        refine r_iinc (v := v1 + 1) (L' := [(1, .int (v1 + 1)), (0, .ref (Z.1 (iCh b0)))]) hC dX0_share_152 1 rfl rfl (by decide) rfl ?_
        refine r_goto 95 hC dX0_share_155 (by decide) ?_
        refine r_L [1, 0] rfl ?_
        exact hk95 _ _ hf
      · have hf := if_F hf h
        refine r_aload_n hC dX0_share_140 0 rfl ?_
        refine r_dup hC dX0_share_141 rfl ?_
        refine gf_X0_56 hC (z_C hZ hb0) rfl dX0_share_142 ?_
        refine r_iconst (v := 1) hC dX0_share_145 rfl ?_
        refine r_iload_n hC dX0_share_146 1 rfl ?_
        refine r_ishl hC dX0_share_147 ?_
        refine r_ior hC dX0_share_148 ?_
        refine pf_X0_56 hC hz (z_C hZ hb0) rfl dX0_share_149 ?_
        refine r_iinc (v := v1 + 1) (L' := [(1, .int (v1 + 1)), (0, .ref (Z.1 (iCh b0)))]) hC dX0_share_152 1 rfl rfl (by decide) rfl ?_
        refine r_goto 95 hC dX0_share_155 (by decide) ?_
        refine r_L [1, 0] rfl ?_
        exact hk95 _ _ hf
set_option maxRecDepth 20000 in
theorem w_X0_share_b70 {X : XX} {G : GG} {Z : ZZ} {r : Unit} {M' : Mem} (hC : Cx X G RX0 cX0_share none 2 0 0 2) (hz : ZOk G Z) (hZ : ZM Z) (b0 : Nat) (hb0 : b0 < 17) (M : Mem) (hf : f_X0_share_b70 b0 M = some (r, M')) : V X G Z M 0 0 (QN X G (QcV G Z r M') 0 0) 70 [(0, .ref (Z.1 (iCh b0)))] [] := by
  unfold f_X0_share_b70 at hf
  refine r_aload_n hC dX0_share_70 0 rfl ?_
  refine r_aload_n hC dX0_share_71 0 rfl ?_
  refine gf_X0_73 hC (z_C hZ hb0) rfl dX0_share_72 ?_
  refine r_aload_n hC dX0_share_75 0 rfl ?_
  refine gf_X0_24 hC (z_C hZ hb0) rfl dX0_share_76 ?_
  refine r_aload_n hC dX0_share_79 0 rfl ?_
  refine gf_X0_87 hC (z_C hZ hb0) rfl dX0_share_80 ?_
  have hin := if_K hf
  have hf := if_V hf
  refine r_iald hC (z_Cj hZ hb0 5 (by decide) rfl) (inb_vp hin) dX0_share_83 ?_
  refine r_iand hC dX0_share_84 ?_
  refine pf_X0_94 hC hz (z_C hZ hb0) rfl dX0_share_85 ?_
  refine r_aload_n hC dX0_share_88 0 rfl ?_
  refine r_iconst (v := 0) hC dX0_share_89 rfl ?_
  refine pf_X0_56 hC hz (z_C hZ hb0) rfl dX0_share_90 ?_
  refine r_iconst (v := 0) hC dX0_share_93 rfl ?_
  refine r_istore_n (L' := [(1, .int 0), (0, .ref (Z.1 (iCh b0)))]) hC dX0_share_94 (by decide) rfl ?_
  refine r_L [1, 0] rfl ?_
  exact lq1_ind (P := fun (u1 : Int32) (M : Mem) => V X G Z M 0 0 (QN X G (QcV G Z r M') 0 0) 95 [(0, .ref (Z.1 (iCh b0))), (1, .int u1)] []) (fun kk hkk u1 M hf => w_X0_share_b95 hC hz hZ b0 hb0 kk hkk u1 M hf) _ _ _ hf
set_option maxRecDepth 20000 in
theorem w_X0_share_b33 {X : XX} {G : GG} {Z : ZZ} {r : Unit} {M' : Mem} (hC : Cx X G RX0 cX0_share none 2 0 0 2) (hz : ZOk G Z) (hZ : ZM Z) (b0 : Nat) (hb0 : b0 < 17) (k33 : Int32 → Mem → Option (Unit × Mem)) (hk33 : ∀ (u1 : Int32) (M : Mem), k33 u1 M = some (r, M') → V X G Z M 0 0 (QN X G (QcV G Z r M') 0 0) 33 [(0, .ref (Z.1 (iCh b0))), (1, .int u1)] []) (v1 : Int32) (M : Mem) (hf : f_X0_share_b33 b0 k33 v1 M = some (r, M')) : V X G Z M 0 0 (QN X G (QcV G Z r M') 0 0) 33 [(0, .ref (Z.1 (iCh b0))), (1, .int v1)] [] := by
  unfold f_X0_share_b33 at hf
  refine r_iload_n hC dX0_share_33 1 rfl ?_
  refine r_aload_n hC dX0_share_34 0 rfl ?_
  refine gf_X0_87 hC (z_C hZ hb0) rfl dX0_share_35 ?_
  refine r_icmp_ge 70 hC dX0_share_38 (by decide) (fun h => ?_) (fun h => ?_)
  · have hf := if_T hf h
    refine r_L [0] rfl ?_
    exact w_X0_share_b70 hC hz hZ b0 hb0 _ hf
  · have hf := if_F hf h
    refine r_aload_n hC dX0_share_41 0 rfl ?_
    refine gf_X0_24 hC (z_C hZ hb0) rfl dX0_share_42 ?_
    refine r_iload_n hC dX0_share_45 1 rfl ?_
    refine r_iconst (v := 1) hC dX0_share_46 rfl ?_
    refine r_iadd hC dX0_share_47 ?_
    refine r_aload_n hC dX0_share_48 0 rfl ?_
    refine gf_X0_24 hC (z_C hZ hb0) rfl dX0_share_49 ?_
    refine r_iload_n hC dX0_share_52 1 rfl ?_
    have hin := if_K hf
    have hf := if_V hf
    refine r_iald hC (z_Cj hZ hb0 5 (by decide) rfl) (inb_vp hin) dX0_share_53 ?_
    refine r_iconst (v := 1) hC dX0_share_54 rfl ?_
    refine r_aload_n hC dX0_share_55 0 rfl ?_
    refine gf_X0_21 hC (z_C hZ hb0) rfl dX0_share_56 ?_
    refine r_iload_n hC dX0_share_59 1 rfl ?_
    have hin := if_K hf
    have hf := if_V hf
    refine r_iald hC (z_Cj hZ hb0 4 (by decide) rfl) (inb_vp hin) dX0_share_60 ?_
    refine r_ishl hC dX0_share_61 ?_
    refine r_ior hC dX0_share_62 ?_
    have hin := if_K hf
    have hf := if_V hf
    refine r_iast hC hz (z_Cj hZ hb0 5 (by decide) rfl) (inb_vp hin) dX0_share_63 ?_
    refine r_iinc (v := v1 + 1) (L' := [(1, .int (v1 + 1)), (0, .ref (Z.1 (iCh b0)))]) hC dX0_share_64 1 rfl rfl (by decide) rfl ?_
    refine r_goto 33 hC dX0_share_67 (by decide) ?_
    refine r_L [1, 0] rfl ?_
    exact hk33 _ _ hf
set_option maxRecDepth 20000 in
theorem w_X0_share_b31 {X : XX} {G : GG} {Z : ZZ} {r : Unit} {M' : Mem} (hC : Cx X G RX0 cX0_share none 2 0 0 2) (hz : ZOk G Z) (hZ : ZM Z) (b0 : Nat) (hb0 : b0 < 17) (M : Mem) (hf : f_X0_share_b31 b0 M = some (r, M')) : V X G Z M 0 0 (QN X G (QcV G Z r M') 0 0) 31 [(0, .ref (Z.1 (iCh b0)))] [] := by
  unfold f_X0_share_b31 at hf
  refine r_iconst (v := 0) hC dX0_share_31 rfl ?_
  refine r_istore_n (L' := [(1, .int 0), (0, .ref (Z.1 (iCh b0)))]) hC dX0_share_32 (by decide) rfl ?_
  refine r_L [1, 0] rfl ?_
  exact lq1_ind (P := fun (u1 : Int32) (M : Mem) => V X G Z M 0 0 (QN X G (QcV G Z r M') 0 0) 33 [(0, .ref (Z.1 (iCh b0))), (1, .int u1)] []) (fun kk hkk u1 M hf => w_X0_share_b33 hC hz hZ b0 hb0 kk hkk u1 M hf) _ _ _ hf
set_option maxRecDepth 20000 in
theorem w_X0_share_b7 {X : XX} {G : GG} {Z : ZZ} {r : Unit} {M' : Mem} (hC : Cx X G RX0 cX0_share none 2 0 0 2) (hz : ZOk G Z) (hZ : ZM Z) (b0 : Nat) (hb0 : b0 < 17) (k7 : Int32 → Mem → Option (Unit × Mem)) (hk7 : ∀ (u1 : Int32) (M : Mem), k7 u1 M = some (r, M') → V X G Z M 0 0 (QN X G (QcV G Z r M') 0 0) 7 [(0, .ref (Z.1 (iCh b0))), (1, .int u1)] []) (v1 : Int32) (M : Mem) (hf : f_X0_share_b7 b0 k7 v1 M = some (r, M')) : V X G Z M 0 0 (QN X G (QcV G Z r M') 0 0) 7 [(0, .ref (Z.1 (iCh b0))), (1, .int v1)] [] := by
  unfold f_X0_share_b7 at hf
  refine r_iload_n hC dX0_share_7 1 rfl ?_
  refine r_if_lt 31 hC dX0_share_8 (by decide) (fun h => ?_) (fun h => ?_)
  · have hf := if_T hf h
    refine r_L [0] rfl ?_
    exact w_X0_share_b31 hC hz hZ b0 hb0 _ hf
  · have hf := if_F hf h
    refine r_aload_n hC dX0_share_11 0 rfl ?_
    refine gf_X0_18 hC (z_C hZ hb0) rfl dX0_share_12 ?_
    refine r_iload_n hC dX0_share_15 1 rfl ?_
    have hin := if_K hf
    have hf := if_V hf
    refine r_iald hC (z_Cj hZ hb0 3 (by decide) rfl) (inb_vp hin) dX0_share_16 ?_
    refine r_if_ne 25 hC dX0_share_17 (by decide) (fun h => ?_) (fun h => ?_)
    · have hf := if_F hf h
      refine r_iinc (v := v1 + (-1)) (L' := [(1, .int (v1 + (-1))), (0, .ref (Z.1 (iCh b0)))]) hC dX0_share_25 1 rfl rfl (by decide) rfl ?_
      refine r_goto 7 hC dX0_share_28 (by decide) ?_
      refine r_L [1, 0] rfl ?_
      exact hk7 _ _ hf
    · have hf := if_T hf h
      refine r_aload_n hC dX0_share_20 0 rfl ?_
      refine r_iload_n hC dX0_share_21 1 rfl ?_
      refine r_callVV [] (fun r M1 h => c_X0_insert (cx_st hC) hz hZ b0 v1 _ hb0 r M1 h) hf cs_X0_90 hC (z_C hZ hb0) (q0 := (RX0, TX0, 14)) rfl rfl [.int v1] rfl rfl rfl (by decide) (by decide) (Nat.le_of_ble_eq_true rfl) (by decide) (by decide) dX0_share_22 (fun x1 M2 hf => ?_)
      refine r_iinc (v := v1 + (-1)) (L' := [(1, .int (v1 + (-1))), (0, .ref (Z.1 (iCh b0)))]) hC dX0_share_25 1 rfl rfl (by decide) rfl ?_
      refine r_goto 7 hC dX0_share_28 (by decide) ?_
      refine r_L [1, 0] rfl ?_
      exact hk7 _ _ hf
set_option maxRecDepth 20000 in
theorem w_X0_share {X : XX} {G : GG} {Z : ZZ} (hC : Cx X G RX0 cX0_share none 2 0 0 2) (hz : ZOk G Z) (hZ : ZM Z) (b0 : Nat) (M : Mem) (hb0 : b0 < 17) {r : Unit} {M' : Mem} (hf : f_X0_share b0 M = some (r, M')) : V X G Z M 0 0 (QN X G (QcV G Z r M') 0 0) 0 [(0, .ref (Z.1 (iCh b0)))] [] := by
  unfold f_X0_share at hf
  refine r_aload_n hC dX0_share_0 0 rfl ?_
  refine r_iconst (v := 0) hC dX0_share_1 rfl ?_
  refine pf_X0_87 hC hz (z_C hZ hb0) rfl dX0_share_2 ?_
  refine r_iconst (v := 3) hC dX0_share_5 rfl ?_
  refine r_istore_n (L' := [(1, .int 3), (0, .ref (Z.1 (iCh b0)))]) hC dX0_share_6 (by decide) rfl ?_
  refine r_L [1, 0] rfl ?_
  exact lq1_ind (P := fun (u1 : Int32) (M : Mem) => V X G Z M 0 0 (QN X G (QcV G Z r M') 0 0) 7 [(0, .ref (Z.1 (iCh b0))), (1, .int u1)] []) (fun kk hkk u1 M hf => w_X0_share_b7 hC hz hZ b0 hb0 kk hkk u1 M hf) _ _ _ hf
set_option maxRecDepth 20000 in
theorem c_X0_share {l : Launch} (hl : l.stackTraces = false) {G : GG} {Z : ZZ} (hz : ZOk G Z) (hZ : ZM Z) (b0 : Nat) (M : Mem) (hb0 : b0 < 17) (r : Unit) (M' : Mem) (hf : f_X0_share b0 M = some (r, M')) : CN (QcV G Z r M') l G Z yX0_share cX0_share 2 none 2 [.ref (Z.1 (iCh b0))] M :=
  CN.of [(0, .ref (Z.1 (iCh b0)))] hl (by decide +kernel) (Nat.le_of_ble_eq_true rfl) rfl (fun _ hC => w_X0_share hC hz hZ b0 M hb0 hf)
set_option maxRecDepth 20000 in
theorem w_X0_read_b66 {X : XX} {G : GG} {Z : ZZ} {r : Unit} {M' : Mem} (hC : Cx X G RX0 cX0_read none 3 0 0 5) (hz : ZOk G Z) (hZ : ZM Z) (b0 : Nat) (hb0 : b0 < 17) (k66 : Int32 → Mem → Option (Unit × Mem)) (hk66 : ∀ (u4 : Int32) (M : Mem), k66 u4 M = some (r, M') → V X G Z M 0 0 (QN X G (QcV G Z r M') 0 0) 66 [(0, .ref (Z.1 (iCh b0))), (4, .int u4)] []) (v4 : Int32) (M : Mem) (hf : f_X0_read_b66 b0 k66 v4 M = some (r, M')) : V X G Z M 0 0 (QN X G (QcV G Z r M') 0 0) 66 [(0, .ref (Z.1 (iCh b0))), (4, .int v4)] [] := by
  unfold f_X0_read_b66 at hf
  refine r_iload hC dX0_read_66 1 rfl ?_
  refine r_iconst (v := 1) hC dX0_read_68 rfl ?_
  refine r_icmp_lt 107 hC dX0_read_69 (by decide) (fun h => ?_) (fun h => ?_)
  · have hf := if_T hf h
    exact r_vret hf hC (by decide) (by decide) dX0_read_107
  · have hf := if_F hf h
    refine r_aload_n hC dX0_read_72 0 rfl ?_
    refine gf_X0_56 hC (z_C hZ hb0) rfl dX0_read_73 ?_
    refine r_if_ne 107 hC dX0_read_76 (by decide) (fun h => ?_) (fun h => ?_)
    · have hf := if_F hf h
      exact r_vret hf hC (by decide) (by decide) dX0_read_107
    · have hf := if_T hf h
      refine r_aload_n hC dX0_read_79 0 rfl ?_
      refine gf_X0_18 hC (z_C hZ hb0) rfl dX0_read_80 ?_
      refine r_iload hC dX0_read_83 1 rfl ?_
      have hin := if_K hf
      have hf := if_V hf
      refine r_iald hC (z_Cj hZ hb0 3 (by decide) rfl) (inb_vp hin) dX0_read_85 ?_
      refine r_if_ne 101 hC dX0_read_86 (by decide) (fun h => ?_) (fun h => ?_)
      · have hf := if_F hf h
        refine r_iinc (v := v4 + (-1)) (L' := [(4, .int (v4 + (-1))), (0, .ref (Z.1 (iCh b0)))]) hC dX0_read_101 1 rfl rfl (by decide) rfl ?_
        refine r_goto 66 hC dX0_read_104 (by decide) ?_
        refine r_L [1, 0] rfl ?_
        exact hk66 _ _ hf
      · have hf := if_T hf h
        refine r_aload_n hC dX0_read_89 0 rfl ?_
        refine gf_X0_18 hC (z_C hZ hb0) rfl dX0_read_90 ?_
        refine r_iload hC dX0_read_93 1 rfl ?_
        refine r_iconst (v := 3) hC dX0_read_95 rfl ?_
        have hin := if_K hf
        have hf := if_V hf
        refine r_iast hC hz (z_Cj hZ hb0 3 (by decide) rfl) (inb_vp hin) dX0_read_96 ?_
        refine r_aload_n hC dX0_read_97 0 rfl ?_
        refine r_callVV [] (fun r M1 h => c_X0_share (cx_st hC) hz hZ b0 _ hb0 r M1 h) hf cs_X0_53 hC (z_C hZ hb0) (q0 := (RX0, TX0, 14)) rfl rfl [] rfl rfl rfl (by decide) (by decide) (Nat.le_of_ble_eq_true rfl) (by decide) (by decide) dX0_read_98 (fun x9 M10 hf => ?_)
        refine r_iinc (v := v4 + (-1)) (L' := [(4, .int (v4 + (-1))), (0, .ref (Z.1 (iCh b0)))]) hC dX0_read_101 1 rfl rfl (by decide) rfl ?_
        refine r_goto 66 hC dX0_read_104 (by decide) ?_
        refine r_L [1, 0] rfl ?_
        exact hk66 _ _ hf
set_option maxRecDepth 20000 in
theorem w_X0_read_b57 {X : XX} {G : GG} {Z : ZZ} {r : Unit} {M' : Mem} (hC : Cx X G RX0 cX0_read none 3 0 0 5) (hz : ZOk G Z) (hZ : ZM Z) (b0 : Nat) (v3 : Int32) (hb0 : b0 < 17) (M : Mem) (hf : f_X0_read_b57 b0 v3 M = some (r, M')) : V X G Z M 0 0 (QN X G (QcV G Z r M') 0 0) 57 [(0, .ref (Z.1 (iCh b0))), (3, .int v3)] [] := by
  unfold f_X0_read_b57 at hf
  refine r_aload_n hC dX0_read_57 0 rfl ?_
  refine r_callVV [] (fun r M1 h => c_X0_share (cx_st hC) hz hZ b0 _ hb0 r M1 h) hf cs_X0_53 hC (z_C hZ hb0) (q0 := (RX0, TX0, 14)) rfl rfl [] rfl rfl rfl (by decide) (by decide) (Nat.le_of_ble_eq_true rfl) (by decide) (by decide) dX0_read_58 (fun x7 M8 hf => ?_)
  refine r_iload_n hC dX0_read_61 1 rfl ?_
  refine r_iconst (v := 1) hC dX0_read_62 rfl ?_
  refine r_isub hC dX0_read_63 ?_
  refine r_istore (L' := [(4, .int (v3 - 1)), (0, .ref (Z.1 (iCh b0))), (3, .int v3)]) hC dX0_read_64 (by decide) rfl ?_
  refine r_L [1, 0] rfl ?_
  exact lq1_ind (P := fun (u4 : Int32) (M : Mem) => V X G Z M 0 0 (QN X G (QcV G Z r M') 0 0) 66 [(0, .ref (Z.1 (iCh b0))), (4, .int u4)] []) (fun kk hkk u4 M hf => w_X0_read_b66 hC hz hZ b0 hb0 kk hkk u4 M hf) _ _ _ hf
set_option maxRecDepth 20000 in
theorem w_X0_read_b21 {X : XX} {G : GG} {Z : ZZ} {r : Unit} {M' : Mem} (hC : Cx X G RX0 cX0_read none 3 0 0 5) (hz : ZOk G Z) (hZ : ZM Z) (b0 : Nat) (v3 : Int32) (hb0 : b0 < 17) (k21 : Int32 → Mem → Option (Unit × Mem)) (hk21 : ∀ (u4 : Int32) (M : Mem), k21 u4 M = some (r, M') → V X G Z M 0 0 (QN X G (QcV G Z r M') 0 0) 21 [(0, .ref (Z.1 (iCh b0))), (3, .int v3), (4, .int u4)] []) (v4 : Int32) (M : Mem) (hf : f_X0_read_b21 b0 v3 k21 v4 M = some (r, M')) : V X G Z M 0 0 (QN X G (QcV G Z r M') 0 0) 21 [(0, .ref (Z.1 (iCh b0))), (3, .int v3), (4, .int v4)] [] := by
  unfold f_X0_read_b21 at hf
  refine r_iload hC dX0_read_21 2 rfl ?_
  refine r_iload_n hC dX0_read_23 1 rfl ?_
  refine r_icmp_ge 57 hC dX0_read_24 (by decide) (fun h => ?_) (fun h => ?_)
  · have hf := if_T hf h
    refine r_L [0, 1] rfl ?_
    exact w_X0_read_b57 hC hz hZ b0 v3 hb0 _ hf
  · have hf := if_F hf h
    refine r_aload_n hC dX0_read_27 0 rfl ?_
    refine gf_X0_18 hC (z_C hZ hb0) rfl dX0_read_28 ?_
    refine r_iload hC dX0_read_31 2 rfl ?_
    have hin := if_K hf
    have hf := if_V hf
    refine r_iald hC (z_Cj hZ hb0 3 (by decide) rfl) (inb_vp hin) dX0_read_33 ?_
    refine r_if_ne 51 hC dX0_read_34 (by decide) (fun h => ?_) (fun h => ?_)
    · have hf := if_F hf h
      refine r_iinc (v := v4 + 1) (L' := [(4, .int (v4 + 1)), (0, .ref (Z.1 (iCh b0))), (3, .int v3)]) hC dX0_read_51 2 rfl rfl (by decide) rfl ?_
      refine r_goto 21 hC dX0_read_54 (by decide) ?_
      refine r_L [1, 2, 0] rfl ?_
      exact hk21 _ _ hf
    · have hf := if_T hf h
      refine r_aload_n hC dX0_read_37 0 rfl ?_
      refine gf_X0_18 hC (z_C hZ hb0) rfl dX0_read_38 ?_
      refine r_iload hC dX0_read_41 2 rfl ?_
      refine r_aload_n hC dX0_read_43 0 rfl ?_
      refine r_iload hC dX0_read_44 2 rfl ?_
      refine r_iload_n hC dX0_read_46 1 rfl ?_
      refine r_callVI [.int v4, .ref (Z.1 (iCh b0 + 3))] (fun r M1 h => c_X0_reasonFor (cx_st hC) hz hZ b0 v4 v3 _ hb0 r M1 h) hf cs_X0_49 hC (z_C hZ hb0) (q0 := (RX0, TX0, 14)) rfl rfl [.int v4, .int v3] rfl rfl rfl (by decide) (by decide) (Nat.le_of_ble_eq_true rfl) (by decide) (by decide) dX0_read_47 (fun x5 M6 hf => ?_)
      have hin := if_K hf
      have hf := if_V hf
      refine r_iast hC hz (z_Cj hZ hb0 3 (by decide) rfl) (inb_vp hin) dX0_read_50 ?_
      refine r_iinc (v := v4 + 1) (L' := [(4, .int (v4 + 1)), (0, .ref (Z.1 (iCh b0))), (3, .int v3)]) hC dX0_read_51 2 rfl rfl (by decide) rfl ?_
      refine r_goto 21 hC dX0_read_54 (by decide) ?_
      refine r_L [1, 2, 0] rfl ?_
      exact hk21 _ _ hf
set_option maxRecDepth 20000 in
theorem w_X0_read {X : XX} {G : GG} {Z : ZZ} (hC : Cx X G RX0 cX0_read none 3 0 0 5) (hz : ZOk G Z) (hZ : ZM Z) (b0 : Nat) (q1 : Nat) (v2 : Int32) (M : Mem) (hb0 : b0 < 17) (hq1 : q1 < 18) {r : Unit} {M' : Mem} (hf : f_X0_read b0 q1 v2 M = some (r, M')) : V X G Z M 0 0 (QN X G (QcV G Z r M') 0 0) 0 [(0, .ref (Z.1 (iCh b0))), (1, .ref (Z.1 (iSt q1))), (2, .int v2)] [] := by
  unfold f_X0_read at hf
  refine r_aload_n hC dX0_read_0 0 rfl ?_
  refine r_aload_n hC dX0_read_1 1 rfl ?_
  refine r_callVV [] (fun r M1 h => c_X0_readSettings (cx_st hC) hz hZ b0 q1 _ hb0 hq1 r M1 h) hf cs_X0_35 hC (z_C hZ hb0) (q0 := (RX0, TX0, 14)) rfl rfl [.ref (Z.1 (iSt q1))] rfl rfl rfl (by decide) (by decide) (Nat.le_of_ble_eq_true rfl) (by decide) (by decide) dX0_read_2 (fun x1 M2 hf => ?_)
  refine r_aload_n hC dX0_read_5 0 rfl ?_
  refine r_aload_n hC dX0_read_6 1 rfl ?_
  refine r_iload_n hC dX0_read_7 2 rfl ?_
  refine r_callVV [] (fun r M1 h => c_X0_readNotes (cx_st hC) hz hZ b0 q1 v2 _ hb0 hq1 r M1 h) hf cs_X0_39 hC (z_C hZ hb0) (q0 := (RX0, TX0, 14)) rfl rfl [.ref (Z.1 (iSt q1)), .int v2] rfl rfl rfl (by decide) (by decide) (Nat.le_of_ble_eq_true rfl) (by decide) (by decide) dX0_read_8 (fun x3 M4 hf => ?_)
  refine r_aload_n hC dX0_read_11 1 rfl ?_
  refine gf_X0_43 hC (z_S hZ hq1) rfl dX0_read_12 ?_
  refine r_iconst (v := 1) hC dX0_read_15 rfl ?_
  refine r_isub hC dX0_read_16 ?_
  refine r_istore_n (L' := [(3, .int ((M4 (iSt q1) 2) - 1)), (0, .ref (Z.1 (iCh b0))), (1, .ref (Z.1 (iSt q1))), (2, .int v2)]) hC dX0_read_17 (by decide) rfl ?_
  refine r_iconst (v := 1) hC dX0_read_18 rfl ?_
  refine r_istore (L' := [(4, .int 1), (3, .int ((M4 (iSt q1) 2) - 1)), (0, .ref (Z.1 (iCh b0))), (1, .ref (Z.1 (iSt q1))), (2, .int v2)]) hC dX0_read_19 (by decide) rfl ?_
  refine r_L [2, 1, 0] rfl ?_
  exact lq1_ind (P := fun (u4 : Int32) (M : Mem) => V X G Z M 0 0 (QN X G (QcV G Z r M') 0 0) 21 [(0, .ref (Z.1 (iCh b0))), (3, .int ((M4 (iSt q1) 2) - 1)), (4, .int u4)] []) (fun kk hkk u4 M hf => w_X0_read_b21 hC hz hZ b0 ((M4 (iSt q1) 2) - 1) hb0 kk hkk u4 M hf) _ _ _ hf
set_option maxRecDepth 20000 in
theorem c_X0_read {l : Launch} (hl : l.stackTraces = false) {G : GG} {Z : ZZ} (hz : ZOk G Z) (hZ : ZM Z) (b0 : Nat) (q1 : Nat) (v2 : Int32) (M : Mem) (hb0 : b0 < 17) (hq1 : q1 < 18) (r : Unit) (M' : Mem) (hf : f_X0_read b0 q1 v2 M = some (r, M')) : CN (QcV G Z r M') l G Z yX0_read cX0_read 5 none 3 [.ref (Z.1 (iCh b0)), .ref (Z.1 (iSt q1)), .int v2] M :=
  CN.of [(0, .ref (Z.1 (iCh b0))), (1, .ref (Z.1 (iSt q1))), (2, .int v2)] hl (by decide +kernel) (Nat.le_of_ble_eq_true rfl) rfl (fun _ hC => w_X0_read hC hz hZ b0 q1 v2 M hb0 hq1 hf)
set_option maxRecDepth 20000 in
theorem w_X0_isPossible {X : XX} {G : GG} {Z : ZZ} (hC : Cx X G RX0 cX0_isPossible (some .boolean) 0 0 0 2) (hz : ZOk G Z) (hZ : ZM Z) (b0 : Nat) (v1 : Int32) (M : Mem) (hb0 : b0 < 17) {r : Int32} {M' : Mem} (hf : f_X0_isPossible b0 v1 M = some (r, M')) : V X G Z M 0 0 (QN X G (QcI G Z r M') 0 0) 0 [(0, .ref (Z.1 (iCh b0))), (1, .int v1)] [] := by
  unfold f_X0_isPossible at hf
  refine r_aload_n hC dX0_isPossible_0 0 rfl ?_
  refine gf_X0_56 hC (z_C hZ hb0) rfl dX0_isPossible_1 ?_
  refine r_iload_n hC dX0_isPossible_4 1 rfl ?_
  refine r_ishr hC dX0_isPossible_5 ?_
  refine r_iconst (v := 1) hC dX0_isPossible_6 rfl ?_
  refine r_iand hC dX0_isPossible_7 ?_
  refine r_iconst (v := 1) hC dX0_isPossible_8 rfl ?_
  refine r_icmp_ne 16 hC dX0_isPossible_9 (by decide) (fun h => ?_) (fun h => ?_)
  · have hf := if_F hf h
    refine r_iconst (v := 0) hC dX0_isPossible_16 rfl ?_
    exact r_zret hf hC rfl rfl (by decide) (by decide) dX0_isPossible_17
  · have hf := if_T hf h
    refine r_iconst (v := 1) hC dX0_isPossible_12 rfl ?_
    refine r_goto 17 hC dX0_isPossible_13 (by decide) ?_
    exact r_zret hf hC rfl rfl (by decide) (by decide) dX0_isPossible_17
set_option maxRecDepth 20000 in
theorem c_X0_isPossible {l : Launch} (hl : l.stackTraces = false) {G : GG} {Z : ZZ} (hz : ZOk G Z) (hZ : ZM Z) (b0 : Nat) (v1 : Int32) (M : Mem) (hb0 : b0 < 17) (r : Int32) (M' : Mem) (hf : f_X0_isPossible b0 v1 M = some (r, M')) : CN (QcI G Z r M') l G Z yX0_isPossible cX0_isPossible 2 (some .boolean) 0 [.ref (Z.1 (iCh b0)), .int v1] M :=
  CN.of [(0, .ref (Z.1 (iCh b0))), (1, .int v1)] hl (by decide +kernel) (Nat.le_of_ble_eq_true rfl) rfl (fun _ hC => w_X0_isPossible hC hz hZ b0 v1 M hb0 hf)
set_option maxRecDepth 20000 in
theorem w_X0_isRolled {X : XX} {G : GG} {Z : ZZ} (hC : Cx X G RX0 cX0_isRolled (some .boolean) 0 0 0 3) (hz : ZOk G Z) (hZ : ZM Z) (b0 : Nat) (v1 : Int32) (v2 : Int32) (M : Mem) (hb0 : b0 < 17) {r : Int32} {M' : Mem} (hf : f_X0_isRolled b0 v1 v2 M = some (r, M')) : V X G Z M 0 0 (QN X G (QcI G Z r M') 0 0) 0 [(0, .ref (Z.1 (iCh b0))), (1, .int v1), (2, .int v2)] [] := by
  unfold f_X0_isRolled at hf
  refine r_aload_n hC dX0_isRolled_0 0 rfl ?_
  refine gf_X0_32 hC (z_C hZ hb0) rfl dX0_isRolled_1 ?_
  refine r_iload_n hC dX0_isRolled_4 1 rfl ?_
  have hin1 := if_K hf
  have hf := if_V hf
  refine r_gald hC (z_Cj hZ hb0 9 (by decide) rfl) (inb_vp hin1) rfl dX0_isRolled_5 ?_
  refine r_iload_n hC dX0_isRolled_6 2 rfl ?_
  have hin := if_K hf
  have hf := if_V hf
  refine r_iald hC (z_Wh hZ hb0 (inb_lt hin1)) (inb_vp hin) dX0_isRolled_7 ?_
  refine r_aload_n hC dX0_isRolled_8 0 rfl ?_
  refine gf_X0_9 hC (z_C hZ hb0) rfl dX0_isRolled_9 ?_
  refine r_iload_n hC dX0_isRolled_12 1 rfl ?_
  have hin := if_K hf
  have hf := if_V hf
  refine r_iald hC (z_Cj hZ hb0 1 (by decide) rfl) (inb_vp hin) dX0_isRolled_13 ?_
  refine r_icmp_le 21 hC dX0_isRolled_14 (by decide) (fun h => ?_) (fun h => ?_)
  · have hf := if_T hf h
    refine r_iconst (v := 0) hC dX0_isRolled_21 rfl ?_
    exact r_zret hf hC rfl rfl (by decide) (by decide) dX0_isRolled_22
  · have hf := if_F hf h
    refine r_iconst (v := 1) hC dX0_isRolled_17 rfl ?_
    refine r_goto 22 hC dX0_isRolled_18 (by decide) ?_
    exact r_zret hf hC rfl rfl (by decide) (by decide) dX0_isRolled_22
set_option maxRecDepth 20000 in
theorem c_X0_isRolled {l : Launch} (hl : l.stackTraces = false) {G : GG} {Z : ZZ} (hz : ZOk G Z) (hZ : ZM Z) (b0 : Nat) (v1 : Int32) (v2 : Int32) (M : Mem) (hb0 : b0 < 17) (r : Int32) (M' : Mem) (hf : f_X0_isRolled b0 v1 v2 M = some (r, M')) : CN (QcI G Z r M') l G Z yX0_isRolled cX0_isRolled 3 (some .boolean) 0 [.ref (Z.1 (iCh b0)), .int v1, .int v2] M :=
  CN.of [(0, .ref (Z.1 (iCh b0))), (1, .int v1), (2, .int v2)] hl (by decide +kernel) (Nat.le_of_ble_eq_true rfl) rfl (fun _ hC => w_X0_isRolled hC hz hZ b0 v1 v2 M hb0 hf)
set_option maxRecDepth 20000 in
theorem w_X0_countRolled_b14 {X : XX} {G : GG} {Z : ZZ} {r : Int32} {M' : Mem} (hC : Cx X G RX0 cX0_countRolled (some .int) 1 0 0 2) (hz : ZOk G Z) (hZ : ZM Z) (b0 : Nat) (v1 : Int32) (hb0 : b0 < 17) (s0 : Int32) (M : Mem) (hf : f_X0_countRolled_b14 b0 v1 s0 M = some (r, M')) : V X G Z M 0 0 (QN X G (QcI G Z r M') 0 0) 14 [(0, .ref (Z.1 (iCh b0))), (1, .int v1)] [.int s0] := by
  unfold f_X0_countRolled_b14 at hf
  refine r_aload_n hC dX0_countRolled_14 0 rfl ?_
  refine r_iconst (v := 1) hC dX0_countRolled_15 rfl ?_
  refine r_iload_n hC dX0_countRolled_16 1 rfl ?_
  refine r_callVI [.int s0] (fun r M1 h => c_X0_isRolled (cx_st hC) hz hZ b0 1 v1 _ hb0 r M1 h) hf cs_X0_111 hC (z_C hZ hb0) (q0 := (RX0, TX0, 14)) rfl rfl [.int 1, .int v1] rfl rfl rfl (by decide) (by decide) (Nat.le_of_ble_eq_true rfl) (by decide) (by decide) dX0_countRolled_17 (fun x3 M4 hf => ?_)
  refine r_if_eq 27 hC dX0_countRolled_20 (by decide) (fun h => ?_) (fun h => ?_)
  · have hf := if_T hf h
    refine r_iconst (v := 0) hC dX0_countRolled_27 rfl ?_
    refine r_iadd hC dX0_countRolled_28 ?_
    exact r_iret hf hC (by decide) (by decide) dX0_countRolled_29
  · have hf := if_F hf h
    refine r_iconst (v := 1) hC dX0_countRolled_23 rfl ?_
    refine r_goto 28 hC dX0_countRolled_24 (by decide) ?_
    refine r_iadd hC dX0_countRolled_28 ?_
    exact r_iret hf hC (by decide) (by decide) dX0_countRolled_29
set_option maxRecDepth 20000 in
theorem w_X0_countRolled {X : XX} {G : GG} {Z : ZZ} (hC : Cx X G RX0 cX0_countRolled (some .int) 1 0 0 2) (hz : ZOk G Z) (hZ : ZM Z) (b0 : Nat) (v1 : Int32) (M : Mem) (hb0 : b0 < 17) {r : Int32} {M' : Mem} (hf : f_X0_countRolled b0 v1 M = some (r, M')) : V X G Z M 0 0 (QN X G (QcI G Z r M') 0 0) 0 [(0, .ref (Z.1 (iCh b0))), (1, .int v1)] [] := by
  unfold f_X0_countRolled at hf
  refine r_aload_n hC dX0_countRolled_0 0 rfl ?_
  refine r_iconst (v := 0) hC dX0_countRolled_1 rfl ?_
  refine r_iload_n hC dX0_countRolled_2 1 rfl ?_
  refine r_callVI [] (fun r M1 h => c_X0_isRolled (cx_st hC) hz hZ b0 0 v1 _ hb0 r M1 h) hf cs_X0_111 hC (z_C hZ hb0) (q0 := (RX0, TX0, 14)) rfl rfl [.int 0, .int v1] rfl rfl rfl (by decide) (by decide) (Nat.le_of_ble_eq_true rfl) (by decide) (by decide) dX0_countRolled_3 (fun x1 M2 hf => ?_)
  refine r_if_eq 13 hC dX0_countRolled_6 (by decide) (fun h => ?_) (fun h => ?_)
  · have hf := if_T hf h
    refine r_iconst (v := 0) hC dX0_countRolled_13 rfl ?_
    exact w_X0_countRolled_b14 hC hz hZ b0 v1 hb0 0 _ hf
  · have hf := if_F hf h
    refine r_iconst (v := 1) hC dX0_countRolled_9 rfl ?_
    refine r_goto 14 hC dX0_countRolled_10 (by decide) ?_
    exact w_X0_countRolled_b14 hC hz hZ b0 v1 hb0 1 _ hf
set_option maxRecDepth 20000 in
theorem c_X0_countRolled {l : Launch} (hl : l.stackTraces = false) {G : GG} {Z : ZZ} (hz : ZOk G Z) (hZ : ZM Z) (b0 : Nat) (v1 : Int32) (M : Mem) (hb0 : b0 < 17) (r : Int32) (M' : Mem) (hf : f_X0_countRolled b0 v1 M = some (r, M')) : CN (QcI G Z r M') l G Z yX0_countRolled cX0_countRolled 2 (some .int) 1 [.ref (Z.1 (iCh b0)), .int v1] M :=
  CN.of [(0, .ref (Z.1 (iCh b0))), (1, .int v1)] hl (by decide +kernel) (Nat.le_of_ble_eq_true rfl) rfl (fun _ hC => w_X0_countRolled hC hz hZ b0 v1 M hb0 hf)
set_option maxRecDepth 20000 in
theorem w_X0_move {X : XX} {G : GG} {Z : ZZ} (hC : Cx X G RX0 cX0_move (some .int) 0 0 0 7) (hz : ZOk G Z) (hZ : ZM Z) (b0 : Nat) (v1 : Int32) (v2 : Int32) (b3 : Nat) (v4 : Int32) (M : Mem) (hb0 : b0 < 17) (hb3 : b3 < 17) {r : Int32} {M' : Mem} (hf : f_X0_move b0 v1 v2 b3 v4 M = some (r, M')) : V X G Z M 0 0 (QN X G (QcI G Z r M') 0 0) 0 [(0, .ref (Z.1 (iCh b0))), (1, .int v1), (2, .int v2), (3, .ref (Z.1 (iCh b3))), (4, .int v4)] [] := by
  unfold f_X0_move at hf
  refine r_aload_n hC dX0_move_0 3 rfl ?_
  refine gf_X0_29 hC (z_C hZ hb3) rfl dX0_move_1 ?_
  refine r_iload_n hC dX0_move_4 1 rfl ?_
  have hin1 := if_K hf
  have hf := if_V hf
  refine r_gald hC (z_Cj hZ hb3 6 (by decide) rfl) (inb_vp hin1) rfl dX0_move_5 ?_
  refine r_iload hC dX0_move_6 4 rfl ?_
  have hin := if_K hf
  have hf := if_V hf
  refine r_iald hC (z_Ph hZ hb3 (inb_lt hin1)) (inb_vp hin) dX0_move_8 ?_
  refine r_istore (L' := [(5, .int (M (iCh b3 + 7 + Int32.toNatClampNeg v1) (Int32.toNatClampNeg v4))), (0, .ref (Z.1 (iCh b0))), (1, .int v1), (2, .int v2), (3, .ref (Z.1 (iCh b3))), (4, .int v4)]) hC dX0_move_9 (by decide) rfl ?_
  refine r_aload_n hC dX0_move_11 1 rfl ?_
  refine gf_X0_29 hC (z_C hZ hb0) rfl dX0_move_12 ?_
  refine r_iload_n hC dX0_move_15 2 rfl ?_
  have hin2 := if_K hf
  have hf := if_V hf
  refine r_gald hC (z_Cj hZ hb0 6 (by decide) rfl) (inb_vp hin2) rfl dX0_move_16 ?_
  refine r_iload_n hC dX0_move_17 3 rfl ?_
  have hin := if_K hf
  have hf := if_V hf
  refine r_iald hC (z_Ph hZ hb0 (inb_lt hin2)) (inb_vp hin) dX0_move_18 ?_
  refine r_istore (L' := [(6, .int (M (iCh b0 + 7 + Int32.toNatClampNeg v1) (Int32.toNatClampNeg v2))), (5, .int (M (iCh b3 + 7 + Int32.toNatClampNeg v1) (Int32.toNatClampNeg v4))), (0, .ref (Z.1 (iCh b0))), (1, .int v1), (2, .int v2), (3, .ref (Z.1 (iCh b3))), (4, .int v4)]) hC dX0_move_19 (by decide) rfl ?_
  refine r_L [0, 1] rfl ?_
  refine r_iload hC dX0_move_21 1 rfl ?_
  refine r_bipush (v := (-9)) hC dX0_move_23 rfl ?_
  refine r_icmp_eq 35 hC dX0_move_25 (by decide) (fun h => ?_) (fun h => ?_)
  · have hf := if_T hf h
    refine r_iconst (v := 0) hC dX0_move_35 rfl ?_
    exact r_iret hf hC (by decide) (by decide) dX0_move_36
  · have hf := if_F hf h
    refine r_iload hC dX0_move_28 0 rfl ?_
    refine r_bipush (v := (-9)) hC dX0_move_30 rfl ?_
    refine r_icmp_ne 37 hC dX0_move_32 (by decide) (fun h => ?_) (fun h => ?_)
    · have hf := if_F hf h
      refine r_iload hC dX0_move_37 0 rfl ?_
      refine r_iload hC dX0_move_39 1 rfl ?_
      refine r_icmp_le 52 hC dX0_move_41 (by decide) (fun h => ?_) (fun h => ?_)
      · have hf := if_T hf h
        refine r_iload hC dX0_move_52 1 rfl ?_
        refine r_iload hC dX0_move_54 0 rfl ?_
        refine r_isub hC dX0_move_56 ?_
        exact r_iret hf hC (by decide) (by decide) dX0_move_57
      · have hf := if_F hf h
        refine r_iload hC dX0_move_44 0 rfl ?_
        refine r_iload hC dX0_move_46 1 rfl ?_
        refine r_isub hC dX0_move_48 ?_
        refine r_goto 57 hC dX0_move_49 (by decide) ?_
        exact r_iret hf hC (by decide) (by decide) dX0_move_57
    · have hf := if_T hf h
      refine r_iconst (v := 0) hC dX0_move_35 rfl ?_
      exact r_iret hf hC (by decide) (by decide) dX0_move_36
set_option maxRecDepth 20000 in
theorem c_X0_move {l : Launch} (hl : l.stackTraces = false) {G : GG} {Z : ZZ} (hz : ZOk G Z) (hZ : ZM Z) (b0 : Nat) (v1 : Int32) (v2 : Int32) (b3 : Nat) (v4 : Int32) (M : Mem) (hb0 : b0 < 17) (hb3 : b3 < 17) (r : Int32) (M' : Mem) (hf : f_X0_move b0 v1 v2 b3 v4 M = some (r, M')) : CN (QcI G Z r M') l G Z yX0_move cX0_move 7 (some .int) 0 [.ref (Z.1 (iCh b0)), .int v1, .int v2, .ref (Z.1 (iCh b3)), .int v4] M :=
  CN.of [(0, .ref (Z.1 (iCh b0))), (1, .int v1), (2, .int v2), (3, .ref (Z.1 (iCh b3))), (4, .int v4)] hl (by decide +kernel) (Nat.le_of_ble_eq_true rfl) rfl (fun _ hC => w_X0_move hC hz hZ b0 v1 v2 b3 v4 M hb0 hb3 hf)
set_option maxRecDepth 20000 in
theorem w_X0_cutStaves {X : XX} {G : GG} {Z : ZZ} (hC : Cx X G RX0 cX0_cutStaves (some .int) 0 0 0 6) (hz : ZOk G Z) (hZ : ZM Z) (b0 : Nat) (v1 : Int32) (b2 : Nat) (v3 : Int32) (M : Mem) (hb0 : b0 < 17) (hb2 : b2 < 17) {r : Int32} {M' : Mem} (hf : f_X0_cutStaves b0 v1 b2 v3 M = some (r, M')) : V X G Z M 0 0 (QN X G (QcI G Z r M') 0 0) 0 [(0, .ref (Z.1 (iCh b0))), (1, .int v1), (2, .ref (Z.1 (iCh b2))), (3, .int v3)] [] := by
  unfold f_X0_cutStaves at hf
  refine r_aload_n hC dX0_cutStaves_0 2 rfl ?_
  refine gf_X0_24 hC (z_C hZ hb2) rfl dX0_cutStaves_1 ?_
  refine r_aload_n hC dX0_cutStaves_4 2 rfl ?_
  refine gf_X0_87 hC (z_C hZ hb2) rfl dX0_cutStaves_5 ?_
  have hin := if_K hf
  have hf := if_V hf
  refine r_iald hC (z_Cj hZ hb2 5 (by decide) rfl) (inb_vp hin) dX0_cutStaves_8 ?_
  refine r_istore (L' := [(4, .int (M (iCh b2 + 5) (Int32.toNatClampNeg (M (iCh b2) 9)))), (0, .ref (Z.1 (iCh b0))), (1, .int v1), (2, .ref (Z.1 (iCh b2))), (3, .int v3)]) hC dX0_cutStaves_9 (by decide) rfl ?_
  refine r_aload_n hC dX0_cutStaves_11 1 rfl ?_
  refine gf_X0_24 hC (z_C hZ hb0) rfl dX0_cutStaves_12 ?_
  refine r_iload_n hC dX0_cutStaves_15 2 rfl ?_
  have hin := if_K hf
  have hf := if_V hf
  refine r_iald hC (z_Cj hZ hb0 5 (by decide) rfl) (inb_vp hin) dX0_cutStaves_16 ?_
  refine r_aload_n hC dX0_cutStaves_17 3 rfl ?_
  refine gf_X0_24 hC (z_C hZ hb2) rfl dX0_cutStaves_18 ?_
  refine r_iload_n hC dX0_cutStaves_21 4 rfl ?_
  have hin := if_K hf
  have hf := if_V hf
  refine r_iald hC (z_Cj hZ hb2 5 (by decide) rfl) (inb_vp hin) dX0_cutStaves_22 ?_
  refine r_ixor hC dX0_cutStaves_23 ?_
  refine r_istore (L' := [(5, .int ((M (iCh b0 + 5) (Int32.toNatClampNeg v1)) ^^^ (M (iCh b2 + 5) (Int32.toNatClampNeg v3)))), (4, .int (M (iCh b2 + 5) (Int32.toNatClampNeg (M (iCh b2) 9)))), (0, .ref (Z.1 (iCh b0))), (1, .int v1), (2, .ref (Z.1 (iCh b2))), (3, .int v3)]) hC dX0_cutStaves_24 (by decide) rfl ?_
  refine r_aload_n hC dX0_cutStaves_26 2 rfl ?_
  refine gf_X0_94 hC (z_C hZ hb0) rfl dX0_cutStaves_27 ?_
  refine r_iload hC dX0_cutStaves_30 1 rfl ?_
  refine r_iconst (v := (-1)) hC dX0_cutStaves_32 rfl ?_
  refine r_ixor hC dX0_cutStaves_33 ?_
  refine r_iload hC dX0_cutStaves_34 0 rfl ?_
  refine r_ior hC dX0_cutStaves_36 ?_
  refine r_iand hC dX0_cutStaves_37 ?_
  exact r_iret hf hC (by decide) (by decide) dX0_cutStaves_38
set_option maxRecDepth 20000 in
theorem c_X0_cutStaves {l : Launch} (hl : l.stackTraces = false) {G : GG} {Z : ZZ} (hz : ZOk G Z) (hZ : ZM Z) (b0 : Nat) (v1 : Int32) (b2 : Nat) (v3 : Int32) (M : Mem) (hb0 : b0 < 17) (hb2 : b2 < 17) (r : Int32) (M' : Mem) (hf : f_X0_cutStaves b0 v1 b2 v3 M = some (r, M')) : CN (QcI G Z r M') l G Z yX0_cutStaves cX0_cutStaves 6 (some .int) 0 [.ref (Z.1 (iCh b0)), .int v1, .ref (Z.1 (iCh b2)), .int v3] M :=
  CN.of [(0, .ref (Z.1 (iCh b0))), (1, .int v1), (2, .ref (Z.1 (iCh b2))), (3, .int v3)] hl (by decide +kernel) (Nat.le_of_ble_eq_true rfl) rfl (fun _ hC => w_X0_cutStaves hC hz hZ b0 v1 b2 v3 M hb0 hb2 hf)
set_option maxRecDepth 20000 in
theorem w_X0_costs {X : XX} {G : GG} {Z : ZZ} (hC : Cx X G RX0 cX0_costs (some .int) 2 0 0 4) (hz : ZOk G Z) (hZ : ZM Z) (b0 : Nat) (v1 : Int32) (b2 : Nat) (v3 : Int32) (M : Mem) (hb0 : b0 < 17) (hb2 : b2 < 17) {r : Int32} {M' : Mem} (hf : f_X0_costs b0 v1 b2 v3 M = some (r, M')) : V X G Z M 0 0 (QN X G (QcI G Z r M') 0 0) 0 [(0, .ref (Z.1 (iCh b0))), (1, .int v1), (2, .ref (Z.1 (iCh b2))), (3, .int v3)] [] := by
  unfold f_X0_costs at hf
  refine r_bipush (v := 10) hC dX0_costs_0 rfl ?_
  refine r_aload_n hC dX0_costs_2 0 rfl ?_
  refine r_iload_n hC dX0_costs_3 1 rfl ?_
  refine r_aload_n hC dX0_costs_4 2 rfl ?_
  refine r_iload_n hC dX0_costs_5 3 rfl ?_
  refine r_callVI [.int 10] (fun r M1 h => c_X0_cutStaves (cx_st hC) hz hZ b0 v1 b2 v3 _ hb0 hb2 r M1 h) hf cs_X0_114 hC (z_C hZ hb0) (q0 := (RX0, TX0, 14)) rfl rfl [.int v1, .ref (Z.1 (iCh b2)), .int v3] rfl rfl rfl (by decide) (by decide) (Nat.le_of_ble_eq_true rfl) (by decide) (by decide) dX0_costs_6 (fun x1 M2 hf => ?_)
  refine r_callSI [.int 10] (fun r M1 h => c_J6_bitCount_0f7a4 (cx_st hC) hz hZ x1 _  r M1 h) hf cs_X0_118 hC  rfl rfl (by decide) (by decide) (Nat.le_of_ble_eq_true rfl) (by decide) (by decide) dX0_costs_9 (fun x3 M4 hf => ?_)
  refine r_imul hC dX0_costs_12 ?_
  refine r_iconst (v := 5) hC dX0_costs_13 rfl ?_
  refine r_aload_n hC dX0_costs_14 0 rfl ?_
  refine r_iload_n hC dX0_costs_15 1 rfl ?_
  refine r_callVI [.int 5, .int (10 * x3)] (fun r M1 h => c_X0_countRolled (cx_st hC) hz hZ b0 v1 _ hb0 r M1 h) hf cs_X0_123 hC (z_C hZ hb0) (q0 := (RX0, TX0, 14)) rfl rfl [.int v1] rfl rfl rfl (by decide) (by decide) (Nat.le_of_ble_eq_true rfl) (by decide) (by decide) dX0_costs_16 (fun x5 M6 hf => ?_)
  refine r_imul hC dX0_costs_19 ?_
  refine r_iadd hC dX0_costs_20 ?_
  refine r_aload_n hC dX0_costs_21 0 rfl ?_
  refine r_iconst (v := 0) hC dX0_costs_22 rfl ?_
  refine r_iload_n hC dX0_costs_23 1 rfl ?_
  refine r_aload_n hC dX0_costs_24 2 rfl ?_
  refine r_iload_n hC dX0_costs_25 3 rfl ?_
  refine r_callVI [.int ((10 * x3) + (5 * x5))] (fun r M1 h => c_X0_move (cx_st hC) hz hZ b0 0 v1 b2 v3 _ hb0 hb2 r M1 h) hf cs_X0_126 hC (z_C hZ hb0) (q0 := (RX0, TX0, 14)) rfl rfl [.int 0, .int v1, .ref (Z.1 (iCh b2)), .int v3] rfl rfl rfl (by decide) (by decide) (Nat.le_of_ble_eq_true rfl) (by decide) (by decide) dX0_costs_26 (fun x7 M8 hf => ?_)
  refine r_iadd hC dX0_costs_29 ?_
  refine r_aload_n hC dX0_costs_30 0 rfl ?_
  refine r_iconst (v := 1) hC dX0_costs_31 rfl ?_
  refine r_iload_n hC dX0_costs_32 1 rfl ?_
  refine r_aload_n hC dX0_costs_33 2 rfl ?_
  refine r_iload_n hC dX0_costs_34 3 rfl ?_
  refine r_callVI [.int (((10 * x3) + (5 * x5)) + x7)] (fun r M1 h => c_X0_move (cx_st hC) hz hZ b0 1 v1 b2 v3 _ hb0 hb2 r M1 h) hf cs_X0_126 hC (z_C hZ hb0) (q0 := (RX0, TX0, 14)) rfl rfl [.int 1, .int v1, .ref (Z.1 (iCh b2)), .int v3] rfl rfl rfl (by decide) (by decide) (Nat.le_of_ble_eq_true rfl) (by decide) (by decide) dX0_costs_35 (fun x9 M10 hf => ?_)
  refine r_iadd hC dX0_costs_38 ?_
  exact r_iret hf hC (by decide) (by decide) dX0_costs_39
set_option maxRecDepth 20000 in
theorem c_X0_costs {l : Launch} (hl : l.stackTraces = false) {G : GG} {Z : ZZ} (hz : ZOk G Z) (hZ : ZM Z) (b0 : Nat) (v1 : Int32) (b2 : Nat) (v3 : Int32) (M : Mem) (hb0 : b0 < 17) (hb2 : b2 < 17) (r : Int32) (M' : Mem) (hf : f_X0_costs b0 v1 b2 v3 M = some (r, M')) : CN (QcI G Z r M') l G Z yX0_costs cX0_costs 4 (some .int) 2 [.ref (Z.1 (iCh b0)), .int v1, .ref (Z.1 (iCh b2)), .int v3] M :=
  CN.of [(0, .ref (Z.1 (iCh b0))), (1, .int v1), (2, .ref (Z.1 (iCh b2))), (3, .int v3)] hl (by decide +kernel) (Nat.le_of_ble_eq_true rfl) rfl (fun _ hC => w_X0_costs hC hz hZ b0 v1 b2 v3 M hb0 hb2 hf)
set_option maxRecDepth 20000 in
theorem w_X0_countLeftOut_b4 {X : XX} {G : GG} {Z : ZZ} {r : Int32} {M' : Mem} (hC : Cx X G RX0 cX0_countLeftOut (some .int) 0 0 0 4) (hz : ZOk G Z) (hZ : ZM Z) (b0 : Nat) (v1 : Int32) (hb0 : b0 < 17) (k4 : Int32 → Int32 → Mem → Option (Int32 × Mem)) (hk4 : ∀ (u2 : Int32) (u3 : Int32) (M : Mem), k4 u2 u3 M = some (r, M') → V X G Z M 0 0 (QN X G (QcI G Z r M') 0 0) 4 [(0, .ref (Z.1 (iCh b0))), (1, .int v1), (2, .int u2), (3, .int u3)] []) (v2 : Int32) (v3 : Int32) (M : Mem) (hf : f_X0_countLeftOut_b4 b0 v1 k4 v2 v3 M = some (r, M')) : V X G Z M 0 0 (QN X G (QcI G Z r M') 0 0) 4 [(0, .ref (Z.1 (iCh b0))), (1, .int v1), (2, .int v2), (3, .int v3)] [] := by
  unfold f_X0_countLeftOut_b4 at hf
  refine r_iload_n hC dX0_countLeftOut_4 3 rfl ?_
  refine r_iconst (v := 4) hC dX0_countLeftOut_5 rfl ?_
  refine r_icmp_ge 28 hC dX0_countLeftOut_6 (by decide) (fun h => ?_) (fun h => ?_)
  · have hf := if_T hf h
    refine r_iload_n hC dX0_countLeftOut_28 2 rfl ?_
    exact r_iret hf hC (by decide) (by decide) dX0_countLeftOut_29
  · have hf := if_F hf h
    refine r_aload_n hC dX0_countLeftOut_9 0 rfl ?_
    refine gf_X0_18 hC (z_C hZ hb0) rfl dX0_countLeftOut_10 ?_
    refine r_iload_n hC dX0_countLeftOut_13 3 rfl ?_
    have hin := if_K hf
    have hf := if_V hf
    refine r_iald hC (z_Cj hZ hb0 3 (by decide) rfl) (inb_vp hin) dX0_countLeftOut_14 ?_
    refine r_iload_n hC dX0_countLeftOut_15 1 rfl ?_
    refine r_icmp_ne 22 hC dX0_countLeftOut_16 (by decide) (fun h => ?_) (fun h => ?_)
    · have hf := if_F hf h
      refine r_iinc (v := v3 + 1) (L' := [(3, .int (v3 + 1)), (0, .ref (Z.1 (iCh b0))), (1, .int v1), (2, .int v2)]) hC dX0_countLeftOut_22 3 rfl rfl (by decide) rfl ?_
      refine r_goto 4 hC dX0_countLeftOut_25 (by decide) ?_
      refine r_L [1, 2, 3, 0] rfl ?_
      exact hk4 _ _ _ hf
    · have hf := if_T hf h
      refine r_iinc (v := v2 + 1) (L' := [(2, .int (v2 + 1)), (0, .ref (Z.1 (iCh b0))), (1, .int v1), (3, .int v3)]) hC dX0_countLeftOut_19 2 rfl rfl (by decide) rfl ?_
      refine r_iinc (v := v3 + 1) (L' := [(3, .int (v3 + 1)), (2, .int (v2 + 1)), (0, .ref (Z.1 (iCh b0))), (1, .int v1)]) hC dX0_countLeftOut_22 3 rfl rfl (by decide) rfl ?_
      refine r_goto 4 hC dX0_countLeftOut_25 (by decide) ?_
      refine r_L [2, 3, 1, 0] rfl ?_
      exact hk4 _ _ _ hf
set_option maxRecDepth 20000 in
theorem w_X0_countLeftOut {X : XX} {G : GG} {Z : ZZ} (hC : Cx X G RX0 cX0_countLeftOut (some .int) 0 0 0 4) (hz : ZOk G Z) (hZ : ZM Z) (b0 : Nat) (v1 : Int32) (M : Mem) (hb0 : b0 < 17) {r : Int32} {M' : Mem} (hf : f_X0_countLeftOut b0 v1 M = some (r, M')) : V X G Z M 0 0 (QN X G (QcI G Z r M') 0 0) 0 [(0, .ref (Z.1 (iCh b0))), (1, .int v1)] [] := by
  unfold f_X0_countLeftOut at hf
  refine r_iconst (v := 0) hC dX0_countLeftOut_0 rfl ?_
  refine r_istore_n (L' := [(2, .int 0), (0, .ref (Z.1 (iCh b0))), (1, .int v1)]) hC dX0_countLeftOut_1 (by decide) rfl ?_
  refine r_iconst (v := 0) hC dX0_countLeftOut_2 rfl ?_
  refine r_istore_n (L' := [(3, .int 0), (2, .int 0), (0, .ref (Z.1 (iCh b0))), (1, .int v1)]) hC dX0_countLeftOut_3 (by decide) rfl ?_
  refine r_L [2, 3, 1, 0] rfl ?_
  exact lq2_ind (P := fun (u2 : Int32) (u3 : Int32) (M : Mem) => V X G Z M 0 0 (QN X G (QcI G Z r M') 0 0) 4 [(0, .ref (Z.1 (iCh b0))), (1, .int v1), (2, .int u2), (3, .int u3)] []) (fun kk hkk u2 u3 M hf => w_X0_countLeftOut_b4 hC hz hZ b0 v1 hb0 kk hkk u2 u3 M hf) _ _ _ _ hf
set_option maxRecDepth 20000 in
theorem c_X0_countLeftOut {l : Launch} (hl : l.stackTraces = false) {G : GG} {Z : ZZ} (hz : ZOk G Z) (hZ : ZM Z) (b0 : Nat) (v1 : Int32) (M : Mem) (hb0 : b0 < 17) (r : Int32) (M' : Mem) (hf : f_X0_countLeftOut b0 v1 M = some (r, M')) : CN (QcI G Z r M') l G Z yX0_countLeftOut cX0_countLeftOut 4 (some .int) 0 [.ref (Z.1 (iCh b0)), .int v1] M :=
  CN.of [(0, .ref (Z.1 (iCh b0))), (1, .int v1)] hl (by decide +kernel) (Nat.le_of_ble_eq_true rfl) rfl (fun _ hC => w_X0_countLeftOut hC hz hZ b0 v1 M hb0 hf)
set_option maxRecDepth 20000 in
theorem w_X2_chordAt {X : XX} {G : GG} {Z : ZZ} (hC : Cx X G RX2 cX2_chordAt (some (.object "HandSpans$Chord")) 0 0 0 2) (hz : ZOk G Z) (hZ : ZM Z) (v1 : Int32) (M : Mem)  {r : Nat} {M' : Mem} (hf : f_X2_chordAt v1 M = some (r, M')) : V X G Z M 0 0 (QN X G (QcR iCh G Z r M') 0 0) 0 [(0, .ref (Z.1 7)), (1, .int v1)] [] := by
  unfold f_X2_chordAt at hf
  refine r_iload_n hC dX2_chordAt_0 1 rfl ?_
  refine r_if_lt 21 hC dX2_chordAt_1 (by decide) (fun h => ?_) (fun h => ?_)
  · have hf := if_T hf h
    refine r_aload_n hC dX2_chordAt_21 0 rfl ?_
    refine gf_X2_18 hC (z_1 hZ 7 (by decide) rfl) rfl dX2_chordAt_22 ?_
    exact r_aret (ido := iCh) hf hC rfl (by decide) (by decide) dX2_chordAt_25
  · have hf := if_F hf h
    refine r_iload_n hC dX2_chordAt_4 1 rfl ?_
    refine r_aload_n hC dX2_chordAt_5 0 rfl ?_
    refine gf_X2_37 hC (z_1 hZ 7 (by decide) rfl) rfl dX2_chordAt_6 ?_
    refine r_icmp_ge 21 hC dX2_chordAt_9 (by decide) (fun h => ?_) (fun h => ?_)
    · have hf := if_T hf h
      refine r_aload_n hC dX2_chordAt_21 0 rfl ?_
      refine gf_X2_18 hC (z_1 hZ 7 (by decide) rfl) rfl dX2_chordAt_22 ?_
      exact r_aret (ido := iCh) hf hC rfl (by decide) (by decide) dX2_chordAt_25
    · have hf := if_F hf h
      refine r_aload_n hC dX2_chordAt_12 0 rfl ?_
      refine gf_X2_11 hC (z_1 hZ 7 (by decide) rfl) rfl dX2_chordAt_13 ?_
      refine r_iload_n hC dX2_chordAt_16 1 rfl ?_
      have hin1 := if_K hf
      have hf := if_V hf
      refine r_aald hC (z_1 hZ 8 (by decide) rfl) rfl (inb_vp hin1) rfl dX2_chordAt_17 ?_
      refine r_goto 25 hC dX2_chordAt_18 (by decide) ?_
      exact r_aret (ido := iCh) hf hC rfl (by decide) (by decide) dX2_chordAt_25
set_option maxRecDepth 20000 in
theorem c_X2_chordAt {l : Launch} (hl : l.stackTraces = false) {G : GG} {Z : ZZ} (hz : ZOk G Z) (hZ : ZM Z) (v1 : Int32) (M : Mem)  (r : Nat) (M' : Mem) (hf : f_X2_chordAt v1 M = some (r, M')) : CN (QcR iCh G Z r M') l G Z yX2_chordAt cX2_chordAt 2 (some (.object "HandSpans$Chord")) 0 [.ref (Z.1 7), .int v1] M :=
  CN.of [(0, .ref (Z.1 7)), (1, .int v1)] hl (by decide +kernel) (Nat.le_of_ble_eq_true rfl) rfl (fun _ hC => w_X2_chordAt hC hz hZ v1 M  hf)
set_option maxRecDepth 20000 in
theorem w_X2_bestSplit_b17 {X : XX} {G : GG} {Z : ZZ} {r : Int32} {M' : Mem} (hC : Cx X G RX2 cX2_bestSplit (some .int) 3 0 0 9) (hz : ZOk G Z) (hZ : ZM Z) (v1 : Int32) (b2 : Nat) (v3 : Int32) (b4 : Nat) (hb2 : b2 < 17) (hb4 : b4 < 17) (k17 : Int32 → Int32 → Int32 → Mem → Option (Int32 × Mem)) (hk17 : ∀ (u5 : Int32) (u6 : Int32) (u7 : Int32) (M : Mem), k17 u5 u6 u7 M = some (r, M') → V X G Z M 0 0 (QN X G (QcI G Z r M') 0 0) 17 [(0, .ref (Z.1 7)), (1, .int v1), (2, .ref (Z.1 (iCh b2))), (3, .int v3), (4, .ref (Z.1 (iCh b4))), (5, .int u5), (6, .int u6), (7, .int u7)] []) (v5 : Int32) (v6 : Int32) (v7 : Int32) (M : Mem) (hf : f_X2_bestSplit_b17 v1 b2 v3 b4 k17 v5 v6 v7 M = some (r, M')) : V X G Z M 0 0 (QN X G (QcI G Z r M') 0 0) 17 [(0, .ref (Z.1 7)), (1, .int v1), (2, .ref (Z.1 (iCh b2))), (3, .int v3), (4, .ref (Z.1 (iCh b4))), (5, .int v5), (6, .int v6), (7, .int v7)] [] := by
  unfold f_X2_bestSplit_b17 at hf
  refine r_iload hC dX2_bestSplit_17 7 rfl ?_
  refine r_iconst (v := 5) hC dX2_bestSplit_19 rfl ?_
  refine r_icmp_ge 75 hC dX2_bestSplit_20 (by decide) (fun h => ?_) (fun h => ?_)
  · have hf := if_T hf h
    refine r_iload hC dX2_bestSplit_75 5 rfl ?_
    exact r_iret hf hC (by decide) (by decide) dX2_bestSplit_77
  · have hf := if_F hf h
    refine r_aload hC dX2_bestSplit_23 4 rfl ?_
    refine r_iload hC dX2_bestSplit_25 7 rfl ?_
    refine r_callVI [] (fun r M1 h => c_X0_isPossible (cx_st hC) hz hZ b4 v7 _ hb4 r M1 h) hf cs_X2_61 hC (z_C hZ hb4) (q0 := (RX0, TX0, 14)) rfl rfl [.int v7] rfl rfl rfl (by decide) (by decide) (Nat.le_of_ble_eq_true rfl) (by decide) (by decide) dX2_bestSplit_27 (fun x4 M5 hf => ?_)
    refine r_if_eq 69 hC dX2_bestSplit_30 (by decide) (fun h => ?_) (fun h => ?_)
    · have hf := if_T hf h
      refine r_iinc (v := v7 + 1) (L' := [(7, .int (v7 + 1)), (0, .ref (Z.1 7)), (1, .int v1), (2, .ref (Z.1 (iCh b2))), (3, .int v3), (4, .ref (Z.1 (iCh b4))), (5, .int v5), (6, .int v6)]) hC dX2_bestSplit_69 7 rfl rfl (by decide) rfl ?_
      refine r_goto 17 hC dX2_bestSplit_72 (by decide) ?_
      refine r_L [1, 2, 3, 4, 5, 6, 7, 0] rfl ?_
      exact hk17 _ _ _ _ hf
    · have hf := if_F hf h
      refine r_aload hC dX2_bestSplit_33 4 rfl ?_
      refine r_iload hC dX2_bestSplit_35 7 rfl ?_
      refine r_aload_n hC dX2_bestSplit_37 2 rfl ?_
      refine r_iload_n hC dX2_bestSplit_38 3 rfl ?_
      refine r_callVI [] (fun r M1 h => c_X0_costs (cx_st hC) hz hZ b4 v7 b2 v3 _ hb4 hb2 r M1 h) hf cs_X2_65 hC (z_C hZ hb4) (q0 := (RX0, TX0, 14)) rfl rfl [.int v7, .ref (Z.1 (iCh b2)), .int v3] rfl rfl rfl (by decide) (by decide) (Nat.le_of_ble_eq_true rfl) (by decide) (by decide) dX2_bestSplit_39 (fun x6 M7 hf => ?_)
      refine r_aload_n hC dX2_bestSplit_42 0 rfl ?_
      refine gf_X2_28 hC (z_1 hZ 7 (by decide) rfl) rfl dX2_bestSplit_43 ?_
      refine r_iload_n hC dX2_bestSplit_46 1 rfl ?_
      have hin8 := if_K hf
      have hf := if_V hf
      refine r_gald hC (z_1 hZ 10 (by decide) rfl) (inb_vp hin8) rfl dX2_bestSplit_47 ?_
      refine r_iload hC dX2_bestSplit_48 7 rfl ?_
      have hin := if_K hf
      have hf := if_V hf
      refine r_iald hC (z_Ah hZ (inb_lt hin8)) (inb_vp hin) dX2_bestSplit_50 ?_
      refine r_iadd hC dX2_bestSplit_51 ?_
      refine r_istore (L' := [(8, .int (x6 + (M7 (11 + Int32.toNatClampNeg v1) (Int32.toNatClampNeg v7)))), (0, .ref (Z.1 7)), (1, .int v1), (2, .ref (Z.1 (iCh b2))), (3, .int v3), (4, .ref (Z.1 (iCh b4))), (5, .int v5), (6, .int v6), (7, .int v7)]) hC dX2_bestSplit_52 (by decide) rfl ?_
      refine r_iload hC dX2_bestSplit_54 0 rfl ?_
      refine r_iload hC dX2_bestSplit_56 7 rfl ?_
      refine r_icmp_ge 69 hC dX2_bestSplit_58 (by decide) (fun h => ?_) (fun h => ?_)
      · have hf := if_T hf h
        refine r_iinc (v := v7 + 1) (L' := [(7, .int (v7 + 1)), (8, .int (x6 + (M7 (11 + Int32.toNatClampNeg v1) (Int32.toNatClampNeg v7)))), (0, .ref (Z.1 7)), (1, .int v1), (2, .ref (Z.1 (iCh b2))), (3, .int v3), (4, .ref (Z.1 (iCh b4))), (5, .int v5), (6, .int v6)]) hC dX2_bestSplit_69 8 rfl rfl (by decide) rfl ?_
        refine r_goto 17 hC dX2_bestSplit_72 (by decide) ?_
        refine r_L [2, 3, 4, 5, 6, 7, 8, 0] rfl ?_
        exact hk17 _ _ _ _ hf
      · have hf := if_F hf h
        refine r_iload hC dX2_bestSplit_61 0 rfl ?_
        refine r_istore (L' := [(6, .int (x6 + (M7 (11 + Int32.toNatClampNeg v1) (Int32.toNatClampNeg v7)))), (8, .int (x6 + (M7 (11 + Int32.toNatClampNeg v1) (Int32.toNatClampNeg v7)))), (0, .ref (Z.1 7)), (1, .int v1), (2, .ref (Z.1 (iCh b2))), (3, .int v3), (4, .ref (Z.1 (iCh b4))), (5, .int v5), (7, .int v7)]) hC dX2_bestSplit_63 (by decide) rfl ?_
        refine r_iload hC dX2_bestSplit_65 8 rfl ?_
        refine r_istore (L' := [(5, .int v7), (6, .int (x6 + (M7 (11 + Int32.toNatClampNeg v1) (Int32.toNatClampNeg v7)))), (8, .int (x6 + (M7 (11 + Int32.toNatClampNeg v1) (Int32.toNatClampNeg v7)))), (0, .ref (Z.1 7)), (1, .int v1), (2, .ref (Z.1 (iCh b2))), (3, .int v3), (4, .ref (Z.1 (iCh b4))), (7, .int v7)]) hC dX2_bestSplit_67 (by decide) rfl ?_
        refine r_iinc (v := v7 + 1) (L' := [(7, .int (v7 + 1)), (5, .int v7), (6, .int (x6 + (M7 (11 + Int32.toNatClampNeg v1) (Int32.toNatClampNeg v7)))), (8, .int (x6 + (M7 (11 + Int32.toNatClampNeg v1) (Int32.toNatClampNeg v7)))), (0, .ref (Z.1 7)), (1, .int v1), (2, .ref (Z.1 (iCh b2))), (3, .int v3), (4, .ref (Z.1 (iCh b4)))]) hC dX2_bestSplit_69 8 rfl rfl (by decide) rfl ?_
        refine r_goto 17 hC dX2_bestSplit_72 (by decide) ?_
        refine r_L [4, 5, 6, 7, 8, 1, 2, 0] rfl ?_
        exact hk17 _ _ _ _ hf
set_option maxRecDepth 20000 in
theorem w_X2_bestSplit {X : XX} {G : GG} {Z : ZZ} (hC : Cx X G RX2 cX2_bestSplit (some .int) 3 0 0 9) (hz : ZOk G Z) (hZ : ZM Z) (v1 : Int32) (b2 : Nat) (v3 : Int32) (M : Mem) (hb2 : b2 < 17) {r : Int32} {M' : Mem} (hf : f_X2_bestSplit v1 b2 v3 M = some (r, M')) : V X G Z M 0 0 (QN X G (QcI G Z r M') 0 0) 0 [(0, .ref (Z.1 7)), (1, .int v1), (2, .ref (Z.1 (iCh b2))), (3, .int v3)] [] := by
  unfold f_X2_bestSplit at hf
  refine r_aload_n hC dX2_bestSplit_0 0 rfl ?_
  refine r_iload_n hC dX2_bestSplit_1 1 rfl ?_
  refine r_callVR [] (fun r M1 h => c_X2_chordAt (cx_st hC) hz hZ v1 _  r M1 h) hf cs_X2_50 hC (z_1 hZ 7 (by decide) rfl) (q0 := (RX2, TX2, 5)) rfl rfl [.int v1] rfl rfl rfl (by decide) (by decide) (Nat.le_of_ble_eq_true rfl) (by decide) (by decide) dX2_bestSplit_2 (fun x1 M2 hf => ?_)
  have hb3 := if_K hf
  have hf := if_V hf
  refine r_astore (L' := [(4, .ref (Z.1 (iCh x1))), (0, .ref (Z.1 7)), (1, .int v1), (2, .ref (Z.1 (iCh b2))), (3, .int v3)]) hC dX2_bestSplit_5 (by decide) rfl ?_
  refine r_iconst (v := 0) hC dX2_bestSplit_7 rfl ?_
  refine r_istore (L' := [(5, .int 0), (4, .ref (Z.1 (iCh x1))), (0, .ref (Z.1 7)), (1, .int v1), (2, .ref (Z.1 (iCh b2))), (3, .int v3)]) hC dX2_bestSplit_8 (by decide) rfl ?_
  refine r_ldc (v := 1000000) hC dX2_bestSplit_10 kw_X2_68 ?_
  refine r_istore (L' := [(6, .int 1000000), (5, .int 0), (4, .ref (Z.1 (iCh x1))), (0, .ref (Z.1 7)), (1, .int v1), (2, .ref (Z.1 (iCh b2))), (3, .int v3)]) hC dX2_bestSplit_12 (by decide) rfl ?_
  refine r_iconst (v := 0) hC dX2_bestSplit_14 rfl ?_
  refine r_istore (L' := [(7, .int 0), (6, .int 1000000), (5, .int 0), (4, .ref (Z.1 (iCh x1))), (0, .ref (Z.1 7)), (1, .int v1), (2, .ref (Z.1 (iCh b2))), (3, .int v3)]) hC dX2_bestSplit_15 (by decide) rfl ?_
  refine r_L [4, 5, 6, 7, 3, 2, 1, 0] rfl ?_
  exact lq3_ind (P := fun (u5 : Int32) (u6 : Int32) (u7 : Int32) (M : Mem) => V X G Z M 0 0 (QN X G (QcI G Z r M') 0 0) 17 [(0, .ref (Z.1 7)), (1, .int v1), (2, .ref (Z.1 (iCh b2))), (3, .int v3), (4, .ref (Z.1 (iCh x1))), (5, .int u5), (6, .int u6), (7, .int u7)] []) (fun kk hkk u5 u6 u7 M hf => w_X2_bestSplit_b17 hC hz hZ v1 b2 v3 x1 hb2 hb3 kk hkk u5 u6 u7 M hf) _ _ _ _ _ hf
set_option maxRecDepth 20000 in
theorem c_X2_bestSplit {l : Launch} (hl : l.stackTraces = false) {G : GG} {Z : ZZ} (hz : ZOk G Z) (hZ : ZM Z) (v1 : Int32) (b2 : Nat) (v3 : Int32) (M : Mem) (hb2 : b2 < 17) (r : Int32) (M' : Mem) (hf : f_X2_bestSplit v1 b2 v3 M = some (r, M')) : CN (QcI G Z r M') l G Z yX2_bestSplit cX2_bestSplit 9 (some .int) 3 [.ref (Z.1 7), .int v1, .ref (Z.1 (iCh b2)), .int v3] M :=
  CN.of [(0, .ref (Z.1 7)), (1, .int v1), (2, .ref (Z.1 (iCh b2))), (3, .int v3)] hl (by decide +kernel) (Nat.le_of_ble_eq_true rfl) rfl (fun _ hC => w_X2_bestSplit hC hz hZ v1 b2 v3 M hb2 hf)
set_option maxRecDepth 20000 in
theorem w_X2_lookAhead_b20 {X : XX} {G : GG} {Z : ZZ} {r : Unit} {M' : Mem} (hC : Cx X G RX2 cX2_lookAhead none 4 0 0 6) (hz : ZOk G Z) (hZ : ZM Z) (v1 : Int32) (v2 : Int32) (b3 : Nat) (hb3 : b3 < 17) (k7 : Int32 → Mem → Option (Unit × Mem)) (hk7 : ∀ (u2 : Int32) (M : Mem), k7 u2 M = some (r, M') → V X G Z M 0 0 (QN X G (QcV G Z r M') 0 0) 7 [(0, .ref (Z.1 7)), (1, .int v1), (2, .int u2)] []) (k20 : Int32 → Mem → Option (Unit × Mem)) (hk20 : ∀ (u4 : Int32) (M : Mem), k20 u4 M = some (r, M') → V X G Z M 0 0 (QN X G (QcV G Z r M') 0 0) 20 [(0, .ref (Z.1 7)), (1, .int v1), (2, .int v2), (3, .ref (Z.1 (iCh b3))), (4, .int u4)] []) (v4 : Int32) (M : Mem) (hf : f_X2_lookAhead_b20 v1 v2 b3 k7 k20 v4 M = some (r, M')) : V X G Z M 0 0 (QN X G (QcV G Z r M') 0 0) 20 [(0, .ref (Z.1 7)), (1, .int v1), (2, .int v2), (3, .ref (Z.1 (iCh b3))), (4, .int v4)] [] := by
  unfold f_X2_lookAhead_b20 at hf
  refine r_iload hC dX2_lookAhead_20 4 rfl ?_
  refine r_iconst (v := 5) hC dX2_lookAhead_22 rfl ?_
  refine r_icmp_ge 113 hC dX2_lookAhead_23 (by decide) (fun h => ?_) (fun h => ?_)
  · have hf := if_T hf h
    refine r_iinc (v := v2 + (-1)) (L' := [(2, .int (v2 + (-1))), (0, .ref (Z.1 7)), (1, .int v1), (3, .ref (Z.1 (iCh b3))), (4, .int v4)]) hC dX2_lookAhead_113 2 rfl rfl (by decide) rfl ?_
    refine r_goto 7 hC dX2_lookAhead_116 (by decide) ?_
    refine r_L [1, 2, 0] rfl ?_
    exact hk7 _ _ hf
  · have hf := if_F hf h
    refine r_aload_n hC dX2_lookAhead_26 0 rfl ?_
    refine gf_X2_28 hC (z_1 hZ 7 (by decide) rfl) rfl dX2_lookAhead_27 ?_
    refine r_iload_n hC dX2_lookAhead_30 2 rfl ?_
    have hin4 := if_K hf
    have hf := if_V hf
    refine r_gald hC (z_1 hZ 10 (by decide) rfl) (inb_vp hin4) rfl dX2_lookAhead_31 ?_
    refine r_iload hC dX2_lookAhead_32 4 rfl ?_
    refine r_iconst (v := 0) hC dX2_lookAhead_34 rfl ?_
    have hin := if_K hf
    have hf := if_V hf
    refine r_iast hC hz (z_Ah hZ (inb_lt hin4)) (inb_vp hin) dX2_lookAhead_35 ?_
    refine r_iload_n hC dX2_lookAhead_36 1 rfl ?_
    refine r_if_eq 107 hC dX2_lookAhead_37 (by decide) (fun h => ?_) (fun h => ?_)
    · have hf := if_T hf h
      refine r_iinc (v := v4 + 1) (L' := [(4, .int (v4 + 1)), (0, .ref (Z.1 7)), (1, .int v1), (2, .int v2), (3, .ref (Z.1 (iCh b3)))]) hC dX2_lookAhead_107 4 rfl rfl (by decide) rfl ?_
      refine r_goto 20 hC dX2_lookAhead_110 (by decide) ?_
      refine r_L [1, 2, 3, 4, 0] rfl ?_
      exact hk20 _ _ hf
    · have hf := if_F hf h
      refine r_iload_n hC dX2_lookAhead_40 2 rfl ?_
      refine r_aload_n hC dX2_lookAhead_41 0 rfl ?_
      refine gf_X2_37 hC (z_1 hZ 7 (by decide) rfl) rfl dX2_lookAhead_42 ?_
      refine r_iconst (v := 1) hC dX2_lookAhead_45 rfl ?_
      refine r_isub hC dX2_lookAhead_46 ?_
      refine r_icmp_ge 107 hC dX2_lookAhead_47 (by decide) (fun h => ?_) (fun h => ?_)
      · have hf := if_T hf h
        refine r_iinc (v := v4 + 1) (L' := [(4, .int (v4 + 1)), (0, .ref (Z.1 7)), (1, .int v1), (2, .int v2), (3, .ref (Z.1 (iCh b3)))]) hC dX2_lookAhead_107 4 rfl rfl (by decide) rfl ?_
        refine r_goto 20 hC dX2_lookAhead_110 (by decide) ?_
        refine r_L [1, 2, 3, 4, 0] rfl ?_
        exact hk20 _ _ hf
      · have hf := if_F hf h
        refine r_aload_n hC dX2_lookAhead_50 3 rfl ?_
        refine r_iload hC dX2_lookAhead_51 4 rfl ?_
        refine r_callVI [] (fun r M1 h => c_X0_isPossible (cx_st hC) hz hZ b3 v4 _ hb3 r M1 h) hf cs_X2_61 hC (z_C hZ hb3) (q0 := (RX0, TX0, 14)) rfl rfl [.int v4] rfl rfl rfl (by decide) (by decide) (Nat.le_of_ble_eq_true rfl) (by decide) (by decide) dX2_lookAhead_53 (fun x5 M6 hf => ?_)
        refine r_if_eq 107 hC dX2_lookAhead_56 (by decide) (fun h => ?_) (fun h => ?_)
        · have hf := if_T hf h
          refine r_iinc (v := v4 + 1) (L' := [(4, .int (v4 + 1)), (0, .ref (Z.1 7)), (1, .int v1), (2, .int v2), (3, .ref (Z.1 (iCh b3)))]) hC dX2_lookAhead_107 4 rfl rfl (by decide) rfl ?_
          refine r_goto 20 hC dX2_lookAhead_110 (by decide) ?_
          refine r_L [1, 2, 3, 4, 0] rfl ?_
          exact hk20 _ _ hf
        · have hf := if_F hf h
          refine r_aload_n hC dX2_lookAhead_59 0 rfl ?_
          refine r_iload_n hC dX2_lookAhead_60 2 rfl ?_
          refine r_iconst (v := 1) hC dX2_lookAhead_61 rfl ?_
          refine r_iadd hC dX2_lookAhead_62 ?_
          refine r_aload_n hC dX2_lookAhead_63 3 rfl ?_
          refine r_iload hC dX2_lookAhead_64 4 rfl ?_
          refine r_callVI [] (fun r M1 h => c_X2_bestSplit (cx_st hC) hz hZ (v2 + 1) b3 v4 _ hb3 r M1 h) hf cs_X2_57 hC (z_1 hZ 7 (by decide) rfl) (q0 := (RX2, TX2, 5)) rfl rfl [.int (v2 + 1), .ref (Z.1 (iCh b3)), .int v4] rfl rfl rfl (by decide) (by decide) (Nat.le_of_ble_eq_true rfl) (by decide) (by decide) dX2_lookAhead_66 (fun x7 M8 hf => ?_)
          refine r_istore (L' := [(5, .int x7), (0, .ref (Z.1 7)), (1, .int v1), (2, .int v2), (3, .ref (Z.1 (iCh b3))), (4, .int v4)]) hC dX2_lookAhead_69 (by decide) rfl ?_
          refine r_aload_n hC dX2_lookAhead_71 1 rfl ?_
          refine gf_X2_28 hC (z_1 hZ 7 (by decide) rfl) rfl dX2_lookAhead_72 ?_
          refine r_iload_n hC dX2_lookAhead_75 3 rfl ?_
          have hin9 := if_K hf
          have hf := if_V hf
          refine r_gald hC (z_1 hZ 10 (by decide) rfl) (inb_vp hin9) rfl dX2_lookAhead_76 ?_
          refine r_iload hC dX2_lookAhead_77 5 rfl ?_
          refine r_aload_n hC dX2_lookAhead_79 1 rfl ?_
          refine r_iload_n hC dX2_lookAhead_80 3 rfl ?_
          refine r_iconst (v := 1) hC dX2_lookAhead_81 rfl ?_
          refine r_iadd hC dX2_lookAhead_82 ?_
          refine r_callVR [.int v4, .ref (Z.1 (11 + Int32.toNatClampNeg v2))] (fun r M1 h => c_X2_chordAt (cx_st hC) hz hZ (v2 + 1) _  r M1 h) hf cs_X2_50 hC (z_1 hZ 7 (by decide) rfl) (q0 := (RX2, TX2, 5)) rfl rfl [.int (v2 + 1)] rfl rfl rfl (by decide) (by decide) (Nat.le_of_ble_eq_true rfl) (by decide) (by decide) dX2_lookAhead_83 (fun x10 M11 hf => ?_)
          have hb12 := if_K hf
          have hf := if_V hf
          refine r_iload hC dX2_lookAhead_86 0 rfl ?_
          refine r_aload_n hC dX2_lookAhead_88 4 rfl ?_
          refine r_iload hC dX2_lookAhead_89 5 rfl ?_
          refine r_callVI [.int v4, .ref (Z.1 (11 + Int32.toNatClampNeg v2))] (fun r M1 h => c_X0_costs (cx_st hC) hz hZ x10 x7 b3 v4 _ hb12 hb3 r M1 h) hf cs_X2_65 hC (z_C hZ hb12) (q0 := (RX0, TX0, 14)) rfl rfl [.int x7, .ref (Z.1 (iCh b3)), .int v4] rfl rfl rfl (by decide) (by decide) (Nat.le_of_ble_eq_true rfl) (by decide) (by decide) dX2_lookAhead_91 (fun x13 M14 hf => ?_)
          refine r_aload_n hC dX2_lookAhead_94 1 rfl ?_
          refine gf_X2_28 hC (z_1 hZ 7 (by decide) rfl) rfl dX2_lookAhead_95 ?_
          refine r_iload_n hC dX2_lookAhead_98 3 rfl ?_
          refine r_iconst (v := 1) hC dX2_lookAhead_99 rfl ?_
          refine r_iadd hC dX2_lookAhead_100 ?_
          have hin15 := if_K hf
          have hf := if_V hf
          refine r_gald hC (z_1 hZ 10 (by decide) rfl) (inb_vp hin15) rfl dX2_lookAhead_101 ?_
          refine r_iload hC dX2_lookAhead_102 0 rfl ?_
          have hin := if_K hf
          have hf := if_V hf
          refine r_iald hC (z_Ah hZ (inb_lt hin15)) (inb_vp hin) dX2_lookAhead_104 ?_
          refine r_iadd hC dX2_lookAhead_105 ?_
          have hin := if_K hf
          have hf := if_V hf
          refine r_iast hC hz (z_Ah hZ (inb_lt hin9)) (inb_vp hin) dX2_lookAhead_106 ?_
          refine r_iinc (v := v4 + 1) (L' := [(4, .int (v4 + 1)), (5, .int x7), (0, .ref (Z.1 7)), (1, .int v1), (2, .int v2), (3, .ref (Z.1 (iCh b3)))]) hC dX2_lookAhead_107 5 rfl rfl (by decide) rfl ?_
          refine r_goto 20 hC dX2_lookAhead_110 (by decide) ?_
          refine r_L [2, 3, 4, 5, 0] rfl ?_
          exact hk20 _ _ hf
set_option maxRecDepth 20000 in
theorem w_X2_lookAhead_b7 {X : XX} {G : GG} {Z : ZZ} {r : Unit} {M' : Mem} (hC : Cx X G RX2 cX2_lookAhead none 4 0 0 6) (hz : ZOk G Z) (hZ : ZM Z) (v1 : Int32) (k7 : Int32 → Mem → Option (Unit × Mem)) (hk7 : ∀ (u2 : Int32) (M : Mem), k7 u2 M = some (r, M') → V X G Z M 0 0 (QN X G (QcV G Z r M') 0 0) 7 [(0, .ref (Z.1 7)), (1, .int v1), (2, .int u2)] []) (v2 : Int32) (M : Mem) (hf : f_X2_lookAhead_b7 v1 k7 v2 M = some (r, M')) : V X G Z M 0 0 (QN X G (QcV G Z r M') 0 0) 7 [(0, .ref (Z.1 7)), (1, .int v1), (2, .int v2)] [] := by
  unfold f_X2_lookAhead_b7 at hf
  refine r_iload_n hC dX2_lookAhead_7 2 rfl ?_
  refine r_if_lt 119 hC dX2_lookAhead_8 (by decide) (fun h => ?_) (fun h => ?_)
  · have hf := if_T hf h
    exact r_vret hf hC (by decide) (by decide) dX2_lookAhead_119
  · have hf := if_F hf h
    refine r_aload_n hC dX2_lookAhead_11 0 rfl ?_
    refine r_iload_n hC dX2_lookAhead_12 2 rfl ?_
    refine r_callVR [] (fun r M1 h => c_X2_chordAt (cx_st hC) hz hZ v2 _  r M1 h) hf cs_X2_50 hC (z_1 hZ 7 (by decide) rfl) (q0 := (RX2, TX2, 5)) rfl rfl [.int v2] rfl rfl rfl (by decide) (by decide) (Nat.le_of_ble_eq_true rfl) (by decide) (by decide) dX2_lookAhead_13 (fun x1 M2 hf => ?_)
    have hb3 := if_K hf
    have hf := if_V hf
    refine r_astore_n (L' := [(3, .ref (Z.1 (iCh x1))), (0, .ref (Z.1 7)), (1, .int v1), (2, .int v2)]) hC dX2_lookAhead_16 (by decide) rfl ?_
    refine r_iconst (v := 0) hC dX2_lookAhead_17 rfl ?_
    refine r_istore (L' := [(4, .int 0), (3, .ref (Z.1 (iCh x1))), (0, .ref (Z.1 7)), (1, .int v1), (2, .int v2)]) hC dX2_lookAhead_18 (by decide) rfl ?_
    refine r_L [2, 3, 4, 1, 0] rfl ?_
    exact lq1_ind (P := fun (u4 : Int32) (M : Mem) => V X G Z M 0 0 (QN X G (QcV G Z r M') 0 0) 20 [(0, .ref (Z.1 7)), (1, .int v1), (2, .int v2), (3, .ref (Z.1 (iCh x1))), (4, .int u4)] []) (fun kk hkk u4 M hf => w_X2_lookAhead_b20 hC hz hZ v1 v2 x1 hb3 k7 hk7 kk hkk u4 M hf) _ _ _ hf
set_option maxRecDepth 20000 in
theorem w_X2_lookAhead {X : XX} {G : GG} {Z : ZZ} (hC : Cx X G RX2 cX2_lookAhead none 4 0 0 6) (hz : ZOk G Z) (hZ : ZM Z) (v1 : Int32) (M : Mem)  {r : Unit} {M' : Mem} (hf : f_X2_lookAhead v1 M = some (r, M')) : V X G Z M 0 0 (QN X G (QcV G Z r M') 0 0) 0 [(0, .ref (Z.1 7)), (1, .int v1)] [] := by
  unfold f_X2_lookAhead at hf
  refine r_aload_n hC dX2_lookAhead_0 0 rfl ?_
  refine gf_X2_37 hC (z_1 hZ 7 (by decide) rfl) rfl dX2_lookAhead_1 ?_
  refine r_iconst (v := 1) hC dX2_lookAhead_4 rfl ?_
  refine r_isub hC dX2_lookAhead_5 ?_
  refine r_istore_n (L' := [(2, .int ((M 7 4) - 1)), (0, .ref (Z.1 7)), (1, .int v1)]) hC dX2_lookAhead_6 (by decide) rfl ?_
  refine r_L [1, 2, 0] rfl ?_
  exact lq1_ind (P := fun (u2 : Int32) (M : Mem) => V X G Z M 0 0 (QN X G (QcV G Z r M') 0 0) 7 [(0, .ref (Z.1 7)), (1, .int v1), (2, .int u2)] []) (fun kk hkk u2 M hf => w_X2_lookAhead_b7 hC hz hZ v1 kk hkk u2 M hf) _ _ _ hf
set_option maxRecDepth 20000 in
theorem c_X2_lookAhead {l : Launch} (hl : l.stackTraces = false) {G : GG} {Z : ZZ} (hz : ZOk G Z) (hZ : ZM Z) (v1 : Int32) (M : Mem)  (r : Unit) (M' : Mem) (hf : f_X2_lookAhead v1 M = some (r, M')) : CN (QcV G Z r M') l G Z yX2_lookAhead cX2_lookAhead 6 none 4 [.ref (Z.1 7), .int v1] M :=
  CN.of [(0, .ref (Z.1 7)), (1, .int v1)] hl (by decide +kernel) (Nat.le_of_ble_eq_true rfl) rfl (fun _ hC => w_X2_lookAhead hC hz hZ v1 M  hf)
set_option maxRecDepth 20000 in
theorem w_X2_splitAt {X : XX} {G : GG} {Z : ZZ} (hC : Cx X G RX2 cX2_splitAt (some .int) 0 0 0 2) (hz : ZOk G Z) (hZ : ZM Z) (v1 : Int32) (M : Mem)  {r : Int32} {M' : Mem} (hf : f_X2_splitAt v1 M = some (r, M')) : V X G Z M 0 0 (QN X G (QcI G Z r M') 0 0) 0 [(0, .ref (Z.1 7)), (1, .int v1)] [] := by
  unfold f_X2_splitAt at hf
  refine r_iload_n hC dX2_splitAt_0 1 rfl ?_
  refine r_if_lt 21 hC dX2_splitAt_1 (by decide) (fun h => ?_) (fun h => ?_)
  · have hf := if_T hf h
    refine r_iconst (v := 0) hC dX2_splitAt_21 rfl ?_
    exact r_iret hf hC (by decide) (by decide) dX2_splitAt_22
  · have hf := if_F hf h
    refine r_iload_n hC dX2_splitAt_4 1 rfl ?_
    refine r_aload_n hC dX2_splitAt_5 0 rfl ?_
    refine gf_X2_37 hC (z_1 hZ 7 (by decide) rfl) rfl dX2_splitAt_6 ?_
    refine r_icmp_ge 21 hC dX2_splitAt_9 (by decide) (fun h => ?_) (fun h => ?_)
    · have hf := if_T hf h
      refine r_iconst (v := 0) hC dX2_splitAt_21 rfl ?_
      exact r_iret hf hC (by decide) (by decide) dX2_splitAt_22
    · have hf := if_F hf h
      refine r_aload_n hC dX2_splitAt_12 0 rfl ?_
      refine gf_X2_22 hC (z_1 hZ 7 (by decide) rfl) rfl dX2_splitAt_13 ?_
      refine r_iload_n hC dX2_splitAt_16 1 rfl ?_
      have hin := if_K hf
      have hf := if_V hf
      refine r_iald hC (z_1 hZ 9 (by decide) rfl) (inb_vp hin) dX2_splitAt_17 ?_
      refine r_goto 22 hC dX2_splitAt_18 (by decide) ?_
      exact r_iret hf hC (by decide) (by decide) dX2_splitAt_22
set_option maxRecDepth 20000 in
theorem c_X2_splitAt {l : Launch} (hl : l.stackTraces = false) {G : GG} {Z : ZZ} (hz : ZOk G Z) (hZ : ZM Z) (v1 : Int32) (M : Mem)  (r : Int32) (M' : Mem) (hf : f_X2_splitAt v1 M = some (r, M')) : CN (QcI G Z r M') l G Z yX2_splitAt cX2_splitAt 2 (some .int) 0 [.ref (Z.1 7), .int v1] M :=
  CN.of [(0, .ref (Z.1 7)), (1, .int v1)] hl (by decide +kernel) (Nat.le_of_ble_eq_true rfl) rfl (fun _ hC => w_X2_splitAt hC hz hZ v1 M  hf)
set_option maxRecDepth 20000 in
theorem w_X2_make_b55 {X : XX} {G : GG} {Z : ZZ} {r : Unit} {M' : Mem} (hC : Cx X G RX2 cX2_make none 5 0 0 3) (hz : ZOk G Z) (hZ : ZM Z) (k55 : Int32 → Mem → Option (Unit × Mem)) (hk55 : ∀ (u2 : Int32) (M : Mem), k55 u2 M = some (r, M') → V X G Z M 0 0 (QN X G (QcV G Z r M') 0 0) 55 [(0, .ref (Z.1 7)), (2, .int u2)] []) (v2 : Int32) (M : Mem) (hf : f_X2_make_b55 k55 v2 M = some (r, M')) : V X G Z M 0 0 (QN X G (QcV G Z r M') 0 0) 55 [(0, .ref (Z.1 7)), (2, .int v2)] [] := by
  unfold f_X2_make_b55 at hf
  refine r_iload_n hC dX2_make_55 1 rfl ?_
  refine r_aload_n hC dX2_make_56 0 rfl ?_
  refine gf_X2_37 hC (z_1 hZ 7 (by decide) rfl) rfl dX2_make_57 ?_
  refine r_icmp_ge 94 hC dX2_make_60 (by decide) (fun h => ?_) (fun h => ?_)
  · have hf := if_T hf h
    exact r_vret hf hC (by decide) (by decide) dX2_make_94
  · have hf := if_F hf h
    refine r_aload_n hC dX2_make_63 0 rfl ?_
    refine gf_X2_22 hC (z_1 hZ 7 (by decide) rfl) rfl dX2_make_64 ?_
    refine r_iload_n hC dX2_make_67 1 rfl ?_
    refine r_aload_n hC dX2_make_68 0 rfl ?_
    refine r_iload_n hC dX2_make_69 1 rfl ?_
    refine r_aload_n hC dX2_make_70 0 rfl ?_
    refine r_iload_n hC dX2_make_71 1 rfl ?_
    refine r_iconst (v := 1) hC dX2_make_72 rfl ?_
    refine r_isub hC dX2_make_73 ?_
    refine r_callVR [.int v2, .ref (Z.1 7), .int v2, .ref (Z.1 9)] (fun r M1 h => c_X2_chordAt (cx_st hC) hz hZ (v2 - 1) _  r M1 h) hf cs_X2_50 hC (z_1 hZ 7 (by decide) rfl) (q0 := (RX2, TX2, 5)) rfl rfl [.int (v2 - 1)] rfl rfl rfl (by decide) (by decide) (Nat.le_of_ble_eq_true rfl) (by decide) (by decide) dX2_make_74 (fun x8 M9 hf => ?_)
    have hb10 := if_K hf
    have hf := if_V hf
    refine r_aload_n hC dX2_make_77 0 rfl ?_
    refine r_iload_n hC dX2_make_78 1 rfl ?_
    refine r_iconst (v := 1) hC dX2_make_79 rfl ?_
    refine r_isub hC dX2_make_80 ?_
    refine r_callVI [.ref (Z.1 (iCh x8)), .int v2, .ref (Z.1 7), .int v2, .ref (Z.1 9)] (fun r M1 h => c_X2_splitAt (cx_st hC) hz hZ (v2 - 1) _  r M1 h) hf cs_X2_54 hC (z_1 hZ 7 (by decide) rfl) (q0 := (RX2, TX2, 5)) rfl rfl [.int (v2 - 1)] rfl rfl rfl (by decide) (by decide) (Nat.le_of_ble_eq_true rfl) (by decide) (by decide) dX2_make_81 (fun x11 M12 hf => ?_)
    refine r_callVI [.int v2, .ref (Z.1 9)] (fun r M1 h => c_X2_bestSplit (cx_st hC) hz hZ v2 x8 x11 _ hb10 r M1 h) hf cs_X2_57 hC (z_1 hZ 7 (by decide) rfl) (q0 := (RX2, TX2, 5)) rfl rfl [.int v2, .ref (Z.1 (iCh x8)), .int x11] rfl rfl rfl (by decide) (by decide) (Nat.le_of_ble_eq_true rfl) (by decide) (by decide) dX2_make_84 (fun x13 M14 hf => ?_)
    have hin := if_K hf
    have hf := if_V hf
    refine r_iast hC hz (z_1 hZ 9 (by decide) rfl) (inb_vp hin) dX2_make_87 ?_
    refine r_iinc (v := v2 + 1) (L' := [(2, .int (v2 + 1)), (0, .ref (Z.1 7))]) hC dX2_make_88 1 rfl rfl (by decide) rfl ?_
    refine r_goto 55 hC dX2_make_91 (by decide) ?_
    refine r_L [1, 0] rfl ?_
    exact hk55 _ _ hf
set_option maxRecDepth 20000 in
theorem w_X2_make_b50 {X : XX} {G : GG} {Z : ZZ} {r : Unit} {M' : Mem} (hC : Cx X G RX2 cX2_make none 5 0 0 3) (hz : ZOk G Z) (hZ : ZM Z) (s0 : Int32) (M : Mem) (hf : f_X2_make_b50 s0 M = some (r, M')) : V X G Z M 0 0 (QN X G (QcV G Z r M') 0 0) 50 [(0, .ref (Z.1 7))] [.int s0, .ref (Z.1 7)] := by
  unfold f_X2_make_b50 at hf
  refine r_callVV [] (fun r M1 h => c_X2_lookAhead (cx_st hC) hz hZ s0 _  r M1 h) hf cs_X2_46 hC (z_1 hZ 7 (by decide) rfl) (q0 := (RX2, TX2, 5)) rfl rfl [.int s0] rfl rfl rfl (by decide) (by decide) (Nat.le_of_ble_eq_true rfl) (by decide) (by decide) dX2_make_50 (fun x6 M7 hf => ?_)
  refine r_iconst (v := 0) hC dX2_make_53 rfl ?_
  refine r_istore_n (L' := [(2, .int 0), (0, .ref (Z.1 7))]) hC dX2_make_54 (by decide) rfl ?_
  refine r_L [1, 0] rfl ?_
  exact lq1_ind (P := fun (u2 : Int32) (M : Mem) => V X G Z M 0 0 (QN X G (QcV G Z r M') 0 0) 55 [(0, .ref (Z.1 7)), (2, .int u2)] []) (fun kk hkk u2 M hf => w_X2_make_b55 hC hz hZ  kk hkk u2 M hf) _ _ _ hf
set_option maxRecDepth 20000 in
theorem w_X2_make_b35 {X : XX} {G : GG} {Z : ZZ} {r : Unit} {M' : Mem} (hC : Cx X G RX2 cX2_make none 5 0 0 3) (hz : ZOk G Z) (hZ : ZM Z) (q1 : Nat) (hq1 : q1 < 18) (M : Mem) (hf : f_X2_make_b35 q1 M = some (r, M')) : V X G Z M 0 0 (QN X G (QcV G Z r M') 0 0) 35 [(0, .ref (Z.1 7)), (1, .ref (Z.1 (iSt q1)))] [] := by
  unfold f_X2_make_b35 at hf
  refine r_aload_n hC dX2_make_35 0 rfl ?_
  refine r_aload_n hC dX2_make_36 1 rfl ?_
  refine r_iconst (v := 5) hC dX2_make_37 rfl ?_
  refine r_callVI [.ref (Z.1 7)] (fun r M1 h => c_X3_settingAt (cx_st hC) hz hZ q1 5 _ hq1 r M1 h) hf cs_X2_42 hC (z_S hZ hq1) (q0 := (RX3, TX3, 4)) rfl rfl [.int 5] rfl rfl rfl (by decide) (by decide) (Nat.le_of_ble_eq_true rfl) (by decide) (by decide) dX2_make_38 (fun x4 M5 hf => ?_)
  refine r_iconst (v := 1) hC dX2_make_41 rfl ?_
  refine r_icmp_ne 49 hC dX2_make_42 (by decide) (fun h => ?_) (fun h => ?_)
  · have hf := if_F hf h
    refine r_iconst (v := 0) hC dX2_make_49 rfl ?_
    refine r_L [0] rfl ?_
    exact w_X2_make_b50 hC hz hZ 0 _ hf
  · have hf := if_T hf h
    refine r_iconst (v := 1) hC dX2_make_45 rfl ?_
    refine r_goto 50 hC dX2_make_46 (by decide) ?_
    refine r_L [0] rfl ?_
    exact w_X2_make_b50 hC hz hZ 1 _ hf
set_option maxRecDepth 20000 in
theorem w_X2_make_b10 {X : XX} {G : GG} {Z : ZZ} {r : Unit} {M' : Mem} (hC : Cx X G RX2 cX2_make none 5 0 0 3) (hz : ZOk G Z) (hZ : ZM Z) (q1 : Nat) (hq1 : q1 < 18) (k10 : Int32 → Mem → Option (Unit × Mem)) (hk10 : ∀ (u2 : Int32) (M : Mem), k10 u2 M = some (r, M') → V X G Z M 0 0 (QN X G (QcV G Z r M') 0 0) 10 [(0, .ref (Z.1 7)), (1, .ref (Z.1 (iSt q1))), (2, .int u2)] []) (v2 : Int32) (M : Mem) (hf : f_X2_make_b10 q1 k10 v2 M = some (r, M')) : V X G Z M 0 0 (QN X G (QcV G Z r M') 0 0) 10 [(0, .ref (Z.1 7)), (1, .ref (Z.1 (iSt q1))), (2, .int v2)] [] := by
  unfold f_X2_make_b10 at hf
  refine r_iload_n hC dX2_make_10 2 rfl ?_
  refine r_aload_n hC dX2_make_11 0 rfl ?_
  refine gf_X2_37 hC (z_1 hZ 7 (by decide) rfl) rfl dX2_make_12 ?_
  refine r_icmp_ge 35 hC dX2_make_15 (by decide) (fun h => ?_) (fun h => ?_)
  · have hf := if_T hf h
    refine r_L [0, 1] rfl ?_
    exact w_X2_make_b35 hC hz hZ q1 hq1 _ hf
  · have hf := if_F hf h
    refine r_aload_n hC dX2_make_18 0 rfl ?_
    refine gf_X2_11 hC (z_1 hZ 7 (by decide) rfl) rfl dX2_make_19 ?_
    refine r_iload_n hC dX2_make_22 2 rfl ?_
    have hin1 := if_K hf
    have hf := if_V hf
    refine r_aald hC (z_1 hZ 8 (by decide) rfl) rfl (inb_vp hin1) rfl dX2_make_23 ?_
    refine r_aload_n hC dX2_make_24 1 rfl ?_
    refine r_iload_n hC dX2_make_25 2 rfl ?_
    refine r_callVV [] (fun r M1 h => c_X0_read (cx_st hC) hz hZ (Int32.toNatClampNeg v2) q1 v2 _ (ch_at hin1) hq1 r M1 h) hf cs_X2_38 hC (z_C hZ (ch_at hin1)) (q0 := (RX0, TX0, 14)) rfl rfl [.ref (Z.1 (iSt q1)), .int v2] rfl rfl rfl (by decide) (by decide) (Nat.le_of_ble_eq_true rfl) (by decide) (by decide) dX2_make_26 (fun x2 M3 hf => ?_)
    refine r_iinc (v := v2 + 1) (L' := [(2, .int (v2 + 1)), (0, .ref (Z.1 7)), (1, .ref (Z.1 (iSt q1)))]) hC dX2_make_29 2 rfl rfl (by decide) rfl ?_
    refine r_goto 10 hC dX2_make_32 (by decide) ?_
    refine r_L [1, 2, 0] rfl ?_
    exact hk10 _ _ hf
set_option maxRecDepth 20000 in
theorem w_X2_make {X : XX} {G : GG} {Z : ZZ} (hC : Cx X G RX2 cX2_make none 5 0 0 3) (hz : ZOk G Z) (hZ : ZM Z) (q1 : Nat) (M : Mem) (hq1 : q1 < 18) {r : Unit} {M' : Mem} (hf : f_X2_make q1 M = some (r, M')) : V X G Z M 0 0 (QN X G (QcV G Z r M') 0 0) 0 [(0, .ref (Z.1 7)), (1, .ref (Z.1 (iSt q1)))] [] := by
  unfold f_X2_make at hf
  refine r_aload_n hC dX2_make_0 0 rfl ?_
  refine r_aload_n hC dX2_make_1 1 rfl ?_
  refine gf_X2_31 hC (z_S hZ hq1) rfl dX2_make_2 ?_
  refine pf_X2_37 hC hz (z_1 hZ 7 (by decide) rfl) rfl dX2_make_5 ?_
  refine r_iconst (v := 0) hC dX2_make_8 rfl ?_
  refine r_istore_n (L' := [(2, .int 0), (0, .ref (Z.1 7)), (1, .ref (Z.1 (iSt q1)))]) hC dX2_make_9 (by decide) rfl ?_
  refine r_L [1, 2, 0] rfl ?_
  exact lq1_ind (P := fun (u2 : Int32) (M : Mem) => V X G Z M 0 0 (QN X G (QcV G Z r M') 0 0) 10 [(0, .ref (Z.1 7)), (1, .ref (Z.1 (iSt q1))), (2, .int u2)] []) (fun kk hkk u2 M hf => w_X2_make_b10 hC hz hZ q1 hq1 kk hkk u2 M hf) _ _ _ hf
set_option maxRecDepth 20000 in
theorem c_X2_make {l : Launch} (hl : l.stackTraces = false) {G : GG} {Z : ZZ} (hz : ZOk G Z) (hZ : ZM Z) (q1 : Nat) (M : Mem) (hq1 : q1 < 18) (r : Unit) (M' : Mem) (hf : f_X2_make q1 M = some (r, M')) : CN (QcV G Z r M') l G Z yX2_make cX2_make 3 none 5 [.ref (Z.1 7), .ref (Z.1 (iSt q1))] M :=
  CN.of [(0, .ref (Z.1 7)), (1, .ref (Z.1 (iSt q1)))] hl (by decide +kernel) (Nat.le_of_ble_eq_true rfl) rfl (fun _ hC => w_X2_make hC hz hZ q1 M hq1 hf)
set_option maxRecDepth 20000 in
theorem w_X2_cutStaves {X : XX} {G : GG} {Z : ZZ} (hC : Cx X G RX2 cX2_cutStaves (some .int) 1 0 0 2) (hz : ZOk G Z) (hZ : ZM Z) (v1 : Int32) (M : Mem)  {r : Int32} {M' : Mem} (hf : f_X2_cutStaves v1 M = some (r, M')) : V X G Z M 0 0 (QN X G (QcI G Z r M') 0 0) 0 [(0, .ref (Z.1 7)), (1, .int v1)] [] := by
  unfold f_X2_cutStaves at hf
  refine r_aload_n hC dX2_cutStaves_0 0 rfl ?_
  refine r_iload_n hC dX2_cutStaves_1 1 rfl ?_
  refine r_callVR [] (fun r M1 h => c_X2_chordAt (cx_st hC) hz hZ v1 _  r M1 h) hf cs_X2_50 hC (z_1 hZ 7 (by decide) rfl) (q0 := (RX2, TX2, 5)) rfl rfl [.int v1] rfl rfl rfl (by decide) (by decide) (Nat.le_of_ble_eq_true rfl) (by decide) (by decide) dX2_cutStaves_2 (fun x1 M2 hf => ?_)
  have hb3 := if_K hf
  have hf := if_V hf
  refine r_aload_n hC dX2_cutStaves_5 0 rfl ?_
  refine r_iload_n hC dX2_cutStaves_6 1 rfl ?_
  refine r_callVI [.ref (Z.1 (iCh x1))] (fun r M1 h => c_X2_splitAt (cx_st hC) hz hZ v1 _  r M1 h) hf cs_X2_54 hC (z_1 hZ 7 (by decide) rfl) (q0 := (RX2, TX2, 5)) rfl rfl [.int v1] rfl rfl rfl (by decide) (by decide) (Nat.le_of_ble_eq_true rfl) (by decide) (by decide) dX2_cutStaves_7 (fun x4 M5 hf => ?_)
  refine r_aload_n hC dX2_cutStaves_10 0 rfl ?_
  refine r_iload_n hC dX2_cutStaves_11 1 rfl ?_
  refine r_iconst (v := 1) hC dX2_cutStaves_12 rfl ?_
  refine r_isub hC dX2_cutStaves_13 ?_
  refine r_callVR [.int x4, .ref (Z.1 (iCh x1))] (fun r M1 h => c_X2_chordAt (cx_st hC) hz hZ (v1 - 1) _  r M1 h) hf cs_X2_50 hC (z_1 hZ 7 (by decide) rfl) (q0 := (RX2, TX2, 5)) rfl rfl [.int (v1 - 1)] rfl rfl rfl (by decide) (by decide) (Nat.le_of_ble_eq_true rfl) (by decide) (by decide) dX2_cutStaves_14 (fun x6 M7 hf => ?_)
  have hb8 := if_K hf
  have hf := if_V hf
  refine r_aload_n hC dX2_cutStaves_17 0 rfl ?_
  refine r_iload_n hC dX2_cutStaves_18 1 rfl ?_
  refine r_iconst (v := 1) hC dX2_cutStaves_19 rfl ?_
  refine r_isub hC dX2_cutStaves_20 ?_
  refine r_callVI [.ref (Z.1 (iCh x6)), .int x4, .ref (Z.1 (iCh x1))] (fun r M1 h => c_X2_splitAt (cx_st hC) hz hZ (v1 - 1) _  r M1 h) hf cs_X2_54 hC (z_1 hZ 7 (by decide) rfl) (q0 := (RX2, TX2, 5)) rfl rfl [.int (v1 - 1)] rfl rfl rfl (by decide) (by decide) (Nat.le_of_ble_eq_true rfl) (by decide) (by decide) dX2_cutStaves_21 (fun x9 M10 hf => ?_)
  refine r_callVI [] (fun r M1 h => c_X0_cutStaves (cx_st hC) hz hZ x1 x4 x6 x9 _ hb3 hb8 r M1 h) hf cs_X2_69 hC (z_C hZ hb3) (q0 := (RX0, TX0, 14)) rfl rfl [.int x4, .ref (Z.1 (iCh x6)), .int x9] rfl rfl rfl (by decide) (by decide) (Nat.le_of_ble_eq_true rfl) (by decide) (by decide) dX2_cutStaves_24 (fun x11 M12 hf => ?_)
  exact r_iret hf hC (by decide) (by decide) dX2_cutStaves_27
set_option maxRecDepth 20000 in
theorem c_X2_cutStaves {l : Launch} (hl : l.stackTraces = false) {G : GG} {Z : ZZ} (hz : ZOk G Z) (hZ : ZM Z) (v1 : Int32) (M : Mem)  (r : Int32) (M' : Mem) (hf : f_X2_cutStaves v1 M = some (r, M')) : CN (QcI G Z r M') l G Z yX2_cutStaves cX2_cutStaves 2 (some .int) 1 [.ref (Z.1 7), .int v1] M :=
  CN.of [(0, .ref (Z.1 7)), (1, .int v1)] hl (by decide +kernel) (Nat.le_of_ble_eq_true rfl) rfl (fun _ hC => w_X2_cutStaves hC hz hZ v1 M  hf)
set_option maxRecDepth 20000 in
theorem w_X2_move {X : XX} {G : GG} {Z : ZZ} (hC : Cx X G RX2 cX2_move (some .int) 1 0 0 3) (hz : ZOk G Z) (hZ : ZM Z) (v1 : Int32) (v2 : Int32) (M : Mem)  {r : Int32} {M' : Mem} (hf : f_X2_move v1 v2 M = some (r, M')) : V X G Z M 0 0 (QN X G (QcI G Z r M') 0 0) 0 [(0, .ref (Z.1 7)), (1, .int v1), (2, .int v2)] [] := by
  unfold f_X2_move at hf
  refine r_aload_n hC dX2_move_0 0 rfl ?_
  refine r_iload_n hC dX2_move_1 2 rfl ?_
  refine r_callVR [] (fun r M1 h => c_X2_chordAt (cx_st hC) hz hZ v2 _  r M1 h) hf cs_X2_50 hC (z_1 hZ 7 (by decide) rfl) (q0 := (RX2, TX2, 5)) rfl rfl [.int v2] rfl rfl rfl (by decide) (by decide) (Nat.le_of_ble_eq_true rfl) (by decide) (by decide) dX2_move_2 (fun x1 M2 hf => ?_)
  have hb3 := if_K hf
  have hf := if_V hf
  refine r_iload_n hC dX2_move_5 1 rfl ?_
  refine r_aload_n hC dX2_move_6 0 rfl ?_
  refine r_iload_n hC dX2_move_7 2 rfl ?_
  refine r_callVI [.int v1, .ref (Z.1 (iCh x1))] (fun r M1 h => c_X2_splitAt (cx_st hC) hz hZ v2 _  r M1 h) hf cs_X2_54 hC (z_1 hZ 7 (by decide) rfl) (q0 := (RX2, TX2, 5)) rfl rfl [.int v2] rfl rfl rfl (by decide) (by decide) (Nat.le_of_ble_eq_true rfl) (by decide) (by decide) dX2_move_8 (fun x4 M5 hf => ?_)
  refine r_aload_n hC dX2_move_11 0 rfl ?_
  refine r_iload_n hC dX2_move_12 2 rfl ?_
  refine r_iconst (v := 1) hC dX2_move_13 rfl ?_
  refine r_isub hC dX2_move_14 ?_
  refine r_callVR [.int x4, .int v1, .ref (Z.1 (iCh x1))] (fun r M1 h => c_X2_chordAt (cx_st hC) hz hZ (v2 - 1) _  r M1 h) hf cs_X2_50 hC (z_1 hZ 7 (by decide) rfl) (q0 := (RX2, TX2, 5)) rfl rfl [.int (v2 - 1)] rfl rfl rfl (by decide) (by decide) (Nat.le_of_ble_eq_true rfl) (by decide) (by decide) dX2_move_15 (fun x6 M7 hf => ?_)
  have hb8 := if_K hf
  have hf := if_V hf
  refine r_aload_n hC dX2_move_18 0 rfl ?_
  refine r_iload_n hC dX2_move_19 2 rfl ?_
  refine r_iconst (v := 1) hC dX2_move_20 rfl ?_
  refine r_isub hC dX2_move_21 ?_
  refine r_callVI [.ref (Z.1 (iCh x6)), .int x4, .int v1, .ref (Z.1 (iCh x1))] (fun r M1 h => c_X2_splitAt (cx_st hC) hz hZ (v2 - 1) _  r M1 h) hf cs_X2_54 hC (z_1 hZ 7 (by decide) rfl) (q0 := (RX2, TX2, 5)) rfl rfl [.int (v2 - 1)] rfl rfl rfl (by decide) (by decide) (Nat.le_of_ble_eq_true rfl) (by decide) (by decide) dX2_move_22 (fun x9 M10 hf => ?_)
  refine r_callVI [] (fun r M1 h => c_X0_move (cx_st hC) hz hZ x1 v1 x4 x6 x9 _ hb3 hb8 r M1 h) hf cs_X2_72 hC (z_C hZ hb3) (q0 := (RX0, TX0, 14)) rfl rfl [.int v1, .int x4, .ref (Z.1 (iCh x6)), .int x9] rfl rfl rfl (by decide) (by decide) (Nat.le_of_ble_eq_true rfl) (by decide) (by decide) dX2_move_25 (fun x11 M12 hf => ?_)
  exact r_iret hf hC (by decide) (by decide) dX2_move_28
set_option maxRecDepth 20000 in
theorem c_X2_move {l : Launch} (hl : l.stackTraces = false) {G : GG} {Z : ZZ} (hz : ZOk G Z) (hZ : ZM Z) (v1 : Int32) (v2 : Int32) (M : Mem)  (r : Int32) (M' : Mem) (hf : f_X2_move v1 v2 M = some (r, M')) : CN (QcI G Z r M') l G Z yX2_move cX2_move 3 (some .int) 1 [.ref (Z.1 7), .int v1, .int v2] M :=
  CN.of [(0, .ref (Z.1 7)), (1, .int v1), (2, .int v2)] hl (by decide +kernel) (Nat.le_of_ble_eq_true rfl) rfl (fun _ hC => w_X2_move hC hz hZ v1 v2 M  hf)
set_option maxRecDepth 20000 in
theorem w_X2_costs {X : XX} {G : GG} {Z : ZZ} (hC : Cx X G RX2 cX2_costs (some .int) 3 0 0 2) (hz : ZOk G Z) (hZ : ZM Z) (v1 : Int32) (M : Mem)  {r : Int32} {M' : Mem} (hf : f_X2_costs v1 M = some (r, M')) : V X G Z M 0 0 (QN X G (QcI G Z r M') 0 0) 0 [(0, .ref (Z.1 7)), (1, .int v1)] [] := by
  unfold f_X2_costs at hf
  refine r_aload_n hC dX2_costs_0 0 rfl ?_
  refine r_iload_n hC dX2_costs_1 1 rfl ?_
  refine r_callVR [] (fun r M1 h => c_X2_chordAt (cx_st hC) hz hZ v1 _  r M1 h) hf cs_X2_50 hC (z_1 hZ 7 (by decide) rfl) (q0 := (RX2, TX2, 5)) rfl rfl [.int v1] rfl rfl rfl (by decide) (by decide) (Nat.le_of_ble_eq_true rfl) (by decide) (by decide) dX2_costs_2 (fun x1 M2 hf => ?_)
  have hb3 := if_K hf
  have hf := if_V hf
  refine r_aload_n hC dX2_costs_5 0 rfl ?_
  refine r_iload_n hC dX2_costs_6 1 rfl ?_
  refine r_callVI [.ref (Z.1 (iCh x1))] (fun r M1 h => c_X2_splitAt (cx_st hC) hz hZ v1 _  r M1 h) hf cs_X2_54 hC (z_1 hZ 7 (by decide) rfl) (q0 := (RX2, TX2, 5)) rfl rfl [.int v1] rfl rfl rfl (by decide) (by decide) (Nat.le_of_ble_eq_true rfl) (by decide) (by decide) dX2_costs_7 (fun x4 M5 hf => ?_)
  refine r_aload_n hC dX2_costs_10 0 rfl ?_
  refine r_iload_n hC dX2_costs_11 1 rfl ?_
  refine r_iconst (v := 1) hC dX2_costs_12 rfl ?_
  refine r_isub hC dX2_costs_13 ?_
  refine r_callVR [.int x4, .ref (Z.1 (iCh x1))] (fun r M1 h => c_X2_chordAt (cx_st hC) hz hZ (v1 - 1) _  r M1 h) hf cs_X2_50 hC (z_1 hZ 7 (by decide) rfl) (q0 := (RX2, TX2, 5)) rfl rfl [.int (v1 - 1)] rfl rfl rfl (by decide) (by decide) (Nat.le_of_ble_eq_true rfl) (by decide) (by decide) dX2_costs_14 (fun x6 M7 hf => ?_)
  have hb8 := if_K hf
  have hf := if_V hf
  refine r_aload_n hC dX2_costs_17 0 rfl ?_
  refine r_iload_n hC dX2_costs_18 1 rfl ?_
  refine r_iconst (v := 1) hC dX2_costs_19 rfl ?_
  refine r_isub hC dX2_costs_20 ?_
  refine r_callVI [.ref (Z.1 (iCh x6)), .int x4, .ref (Z.1 (iCh x1))] (fun r M1 h => c_X2_splitAt (cx_st hC) hz hZ (v1 - 1) _  r M1 h) hf cs_X2_54 hC (z_1 hZ 7 (by decide) rfl) (q0 := (RX2, TX2, 5)) rfl rfl [.int (v1 - 1)] rfl rfl rfl (by decide) (by decide) (Nat.le_of_ble_eq_true rfl) (by decide) (by decide) dX2_costs_21 (fun x9 M10 hf => ?_)
  refine r_callVI [] (fun r M1 h => c_X0_costs (cx_st hC) hz hZ x1 x4 x6 x9 _ hb3 hb8 r M1 h) hf cs_X2_65 hC (z_C hZ hb3) (q0 := (RX0, TX0, 14)) rfl rfl [.int x4, .ref (Z.1 (iCh x6)), .int x9] rfl rfl rfl (by decide) (by decide) (Nat.le_of_ble_eq_true rfl) (by decide) (by decide) dX2_costs_24 (fun x11 M12 hf => ?_)
  exact r_iret hf hC (by decide) (by decide) dX2_costs_27
set_option maxRecDepth 20000 in
theorem c_X2_costs {l : Launch} (hl : l.stackTraces = false) {G : GG} {Z : ZZ} (hz : ZOk G Z) (hZ : ZM Z) (v1 : Int32) (M : Mem)  (r : Int32) (M' : Mem) (hf : f_X2_costs v1 M = some (r, M')) : CN (QcI G Z r M') l G Z yX2_costs cX2_costs 2 (some .int) 3 [.ref (Z.1 7), .int v1] M :=
  CN.of [(0, .ref (Z.1 7)), (1, .int v1)] hl (by decide +kernel) (Nat.le_of_ble_eq_true rfl) rfl (fun _ hC => w_X2_costs hC hz hZ v1 M  hf)
set_option maxRecDepth 20000 in
theorem w_X2_numberOfNote_b98 {X : XX} {G : GG} {Z : ZZ} {r : Int32} {M' : Mem} (hC : Cx X G RX2 cX2_numberOfNote (some .int) 2 0 0 8) (hz : ZOk G Z) (hZ : ZM Z) (v6 : Int32) (s0 : Int32) (M : Mem) (hf : f_X2_numberOfNote_b98 v6 s0 M = some (r, M')) : V X G Z M 0 0 (QN X G (QcI G Z r M') 0 0) 98 [(6, .int v6)] [.int s0] := by
  unfold f_X2_numberOfNote_b98 at hf
  refine r_istore (L' := [(7, .int s0), (6, .int v6)]) hC dX2_numberOfNote_98 (by decide) rfl ?_
  refine r_iload hC dX2_numberOfNote_100 0 rfl ?_
  refine r_if_eq 114 hC dX2_numberOfNote_102 (by decide) (fun h => ?_) (fun h => ?_)
  · have hf := if_T hf h
    refine r_iconst (v := 1) hC dX2_numberOfNote_114 rfl ?_
    exact r_iret hf hC (by decide) (by decide) dX2_numberOfNote_115
  · have hf := if_F hf h
    refine r_iload hC dX2_numberOfNote_105 1 rfl ?_
    refine r_if_ne 114 hC dX2_numberOfNote_107 (by decide) (fun h => ?_) (fun h => ?_)
    · have hf := if_F hf h
      refine r_iconst (v := 1) hC dX2_numberOfNote_114 rfl ?_
      exact r_iret hf hC (by decide) (by decide) dX2_numberOfNote_115
    · have hf := if_T hf h
      refine r_iconst (v := 0) hC dX2_numberOfNote_110 rfl ?_
      refine r_goto 115 hC dX2_numberOfNote_111 (by decide) ?_
      exact r_iret hf hC (by decide) (by decide) dX2_numberOfNote_115
set_option maxRecDepth 20000 in
theorem w_X2_numberOfNote_b49 {X : XX} {G : GG} {Z : ZZ} {r : Int32} {M' : Mem} (hC : Cx X G RX2 cX2_numberOfNote (some .int) 2 0 0 8) (hz : ZOk G Z) (hZ : ZM Z) (v1 : Int32) (v2 : Int32) (v3 : Int32) (b4 : Nat) (v5 : Int32) (hb4 : b4 < 17) (s0 : Int32) (M : Mem) (hf : f_X2_numberOfNote_b49 v1 v2 v3 b4 v5 s0 M = some (r, M')) : V X G Z M 0 0 (QN X G (QcI G Z r M') 0 0) 49 [(0, .ref (Z.1 7)), (1, .int v1), (2, .int v2), (3, .int v3), (4, .ref (Z.1 (iCh b4))), (5, .int v5)] [.int s0] := by
  unfold f_X2_numberOfNote_b49 at hf
  refine r_istore (L' := [(6, .int s0), (0, .ref (Z.1 7)), (1, .int v1), (2, .int v2), (3, .int v3), (4, .ref (Z.1 (iCh b4))), (5, .int v5)]) hC dX2_numberOfNote_49 (by decide) rfl ?_
  refine r_iload_n hC dX2_numberOfNote_51 4 rfl ?_
  refine r_iconst (v := 3) hC dX2_numberOfNote_52 rfl ?_
  refine r_icmp_ne 67 hC dX2_numberOfNote_53 (by decide) (fun h => ?_) (fun h => ?_)
  · have hf := if_F hf h
    refine r_iload hC dX2_numberOfNote_67 6 rfl ?_
    refine r_if_eq 75 hC dX2_numberOfNote_69 (by decide) (fun h => ?_) (fun h => ?_)
    · have hf := if_T hf h
      refine r_iload_n hC dX2_numberOfNote_75 4 rfl ?_
      refine r_iconst (v := 2) hC dX2_numberOfNote_76 rfl ?_
      refine r_icmp_ne 116 hC dX2_numberOfNote_77 (by decide) (fun h => ?_) (fun h => ?_)
      · have hf := if_F hf h
        refine r_aload hC dX2_numberOfNote_116 5 rfl ?_
        refine r_iconst (v := 0) hC dX2_numberOfNote_118 rfl ?_
        refine r_aload_n hC dX2_numberOfNote_119 1 rfl ?_
        refine r_iload_n hC dX2_numberOfNote_120 3 rfl ?_
        refine r_callVI [.int 0, .ref (Z.1 (iCh b4))] (fun r M1 h => c_X2_splitAt (cx_st hC) hz hZ v2 _  r M1 h) hf cs_X2_54 hC (z_1 hZ 7 (by decide) rfl) (q0 := (RX2, TX2, 5)) rfl rfl [.int v2] rfl rfl rfl (by decide) (by decide) (Nat.le_of_ble_eq_true rfl) (by decide) (by decide) dX2_numberOfNote_121 (fun x6 M7 hf => ?_)
        refine r_callVI [] (fun r M1 h => c_X0_stavesOf (cx_st hC) hz hZ b4 0 x6 _ hb4 r M1 h) hf cs_X2_84 hC (z_C hZ hb4) (q0 := (RX0, TX0, 14)) rfl rfl [.int 0, .int x6] rfl rfl rfl (by decide) (by decide) (Nat.le_of_ble_eq_true rfl) (by decide) (by decide) dX2_numberOfNote_124 (fun x8 M9 hf => ?_)
        refine r_iload_n hC dX2_numberOfNote_127 2 rfl ?_
        refine r_ishr hC dX2_numberOfNote_128 ?_
        refine r_iconst (v := 1) hC dX2_numberOfNote_129 rfl ?_
        refine r_iand hC dX2_numberOfNote_130 ?_
        refine r_iconst (v := 1) hC dX2_numberOfNote_131 rfl ?_
        refine r_icmp_ne 139 hC dX2_numberOfNote_132 (by decide) (fun h => ?_) (fun h => ?_)
        · have hf := if_F hf h
          refine r_iconst (v := 1) hC dX2_numberOfNote_139 rfl ?_
          exact r_iret hf hC (by decide) (by decide) dX2_numberOfNote_140
        · have hf := if_T hf h
          refine r_iconst (v := 0) hC dX2_numberOfNote_135 rfl ?_
          refine r_goto 140 hC dX2_numberOfNote_136 (by decide) ?_
          exact r_iret hf hC (by decide) (by decide) dX2_numberOfNote_140
      · have hf := if_T hf h
        refine r_aload hC dX2_numberOfNote_80 5 rfl ?_
        refine gf_X2_81 hC (z_C hZ hb4) rfl dX2_numberOfNote_82 ?_
        refine r_iload_n hC dX2_numberOfNote_85 2 rfl ?_
        refine r_ishr hC dX2_numberOfNote_86 ?_
        refine r_iconst (v := 1) hC dX2_numberOfNote_87 rfl ?_
        refine r_iand hC dX2_numberOfNote_88 ?_
        refine r_iconst (v := 1) hC dX2_numberOfNote_89 rfl ?_
        refine r_icmp_ne 97 hC dX2_numberOfNote_90 (by decide) (fun h => ?_) (fun h => ?_)
        · have hf := if_F hf h
          refine r_iconst (v := 0) hC dX2_numberOfNote_97 rfl ?_
          refine r_L [0] rfl ?_
          exact w_X2_numberOfNote_b98 hC hz hZ s0 0 _ hf
        · have hf := if_T hf h
          refine r_iconst (v := 1) hC dX2_numberOfNote_93 rfl ?_
          refine r_goto 98 hC dX2_numberOfNote_94 (by decide) ?_
          refine r_L [0] rfl ?_
          exact w_X2_numberOfNote_b98 hC hz hZ s0 1 _ hf
    · have hf := if_F hf h
      refine r_bipush (v := (-9)) hC dX2_numberOfNote_72 rfl ?_
      exact r_iret hf hC (by decide) (by decide) dX2_numberOfNote_74
  · have hf := if_T hf h
    refine r_iload hC dX2_numberOfNote_56 0 rfl ?_
    refine r_if_eq 65 hC dX2_numberOfNote_58 (by decide) (fun h => ?_) (fun h => ?_)
    · have hf := if_T hf h
      refine r_iconst (v := 0) hC dX2_numberOfNote_65 rfl ?_
      exact r_iret hf hC (by decide) (by decide) dX2_numberOfNote_66
    · have hf := if_F hf h
      refine r_iconst (v := 1) hC dX2_numberOfNote_61 rfl ?_
      refine r_goto 66 hC dX2_numberOfNote_62 (by decide) ?_
      exact r_iret hf hC (by decide) (by decide) dX2_numberOfNote_66
set_option maxRecDepth 20000 in
theorem w_X2_numberOfNote {X : XX} {G : GG} {Z : ZZ} (hC : Cx X G RX2 cX2_numberOfNote (some .int) 2 0 0 8) (hz : ZOk G Z) (hZ : ZM Z) (v1 : Int32) (v2 : Int32) (v3 : Int32) (M : Mem)  {r : Int32} {M' : Mem} (hf : f_X2_numberOfNote v1 v2 v3 M = some (r, M')) : V X G Z M 0 0 (QN X G (QcI G Z r M') 0 0) 0 [(0, .ref (Z.1 7)), (1, .int v1), (2, .int v2), (3, .int v3)] [] := by
  unfold f_X2_numberOfNote at hf
  refine r_aload_n hC dX2_numberOfNote_0 0 rfl ?_
  refine r_iload_n hC dX2_numberOfNote_1 2 rfl ?_
  refine r_callVR [] (fun r M1 h => c_X2_chordAt (cx_st hC) hz hZ v2 _  r M1 h) hf cs_X2_50 hC (z_1 hZ 7 (by decide) rfl) (q0 := (RX2, TX2, 5)) rfl rfl [.int v2] rfl rfl rfl (by decide) (by decide) (Nat.le_of_ble_eq_true rfl) (by decide) (by decide) dX2_numberOfNote_2 (fun x1 M2 hf => ?_)
  have hb3 := if_K hf
  have hf := if_V hf
  refine r_astore (L' := [(4, .ref (Z.1 (iCh x1))), (0, .ref (Z.1 7)), (1, .int v1), (2, .int v2), (3, .int v3)]) hC dX2_numberOfNote_5 (by decide) rfl ?_
  refine r_aload hC dX2_numberOfNote_7 0 rfl ?_
  refine gf_X2_76 hC (z_C hZ hb3) rfl dX2_numberOfNote_9 ?_
  refine r_iload_n hC dX2_numberOfNote_12 2 rfl ?_
  have hin := if_K hf
  have hf := if_V hf
  refine r_iald hC (z_Cj hZ hb3 3 (by decide) rfl) (inb_vp hin) dX2_numberOfNote_13 ?_
  refine r_istore (L' := [(5, .int (M2 (iCh x1 + 3) (Int32.toNatClampNeg v1))), (4, .ref (Z.1 (iCh x1))), (0, .ref (Z.1 7)), (1, .int v1), (2, .int v2), (3, .int v3)]) hC dX2_numberOfNote_14 (by decide) rfl ?_
  refine r_iload hC dX2_numberOfNote_16 0 rfl ?_
  refine r_bipush (v := (-9)) hC dX2_numberOfNote_18 rfl ?_
  refine r_icmp_eq 28 hC dX2_numberOfNote_20 (by decide) (fun h => ?_) (fun h => ?_)
  · have hf := if_T hf h
    refine r_iload hC dX2_numberOfNote_28 0 rfl ?_
    exact r_iret hf hC (by decide) (by decide) dX2_numberOfNote_30
  · have hf := if_F hf h
    refine r_iload_n hC dX2_numberOfNote_23 5 rfl ?_
    refine r_iconst (v := 1) hC dX2_numberOfNote_24 rfl ?_
    refine r_icmp_ne 31 hC dX2_numberOfNote_25 (by decide) (fun h => ?_) (fun h => ?_)
    · have hf := if_F hf h
      refine r_aload_n hC dX2_numberOfNote_31 2 rfl ?_
      refine r_iload_n hC dX2_numberOfNote_32 4 rfl ?_
      refine r_callVI [] (fun r M1 h => c_X2_cutStaves (cx_st hC) hz hZ v2 _  r M1 h) hf cs_X2_79 hC (z_1 hZ 7 (by decide) rfl) (q0 := (RX2, TX2, 5)) rfl rfl [.int v2] rfl rfl rfl (by decide) (by decide) (Nat.le_of_ble_eq_true rfl) (by decide) (by decide) dX2_numberOfNote_33 (fun x4 M5 hf => ?_)
      refine r_iload_n hC dX2_numberOfNote_36 3 rfl ?_
      refine r_ishr hC dX2_numberOfNote_37 ?_
      refine r_iconst (v := 1) hC dX2_numberOfNote_38 rfl ?_
      refine r_iand hC dX2_numberOfNote_39 ?_
      refine r_iconst (v := 1) hC dX2_numberOfNote_40 rfl ?_
      refine r_icmp_ne 48 hC dX2_numberOfNote_41 (by decide) (fun h => ?_) (fun h => ?_)
      · have hf := if_F hf h
        refine r_iconst (v := 0) hC dX2_numberOfNote_48 rfl ?_
        refine r_L [2, 3, 4, 5, 1, 0] rfl ?_
        exact w_X2_numberOfNote_b49 hC hz hZ v1 v2 v3 x1 (M2 (iCh x1 + 3) (Int32.toNatClampNeg v1)) hb3 0 _ hf
      · have hf := if_T hf h
        refine r_iconst (v := 1) hC dX2_numberOfNote_44 rfl ?_
        refine r_goto 49 hC dX2_numberOfNote_45 (by decide) ?_
        refine r_L [2, 3, 4, 5, 1, 0] rfl ?_
        exact w_X2_numberOfNote_b49 hC hz hZ v1 v2 v3 x1 (M2 (iCh x1 + 3) (Int32.toNatClampNeg v1)) hb3 1 _ hf
    · have hf := if_T hf h
      refine r_iload hC dX2_numberOfNote_28 0 rfl ?_
      exact r_iret hf hC (by decide) (by decide) dX2_numberOfNote_30
set_option maxRecDepth 20000 in
theorem c_X2_numberOfNote {l : Launch} (hl : l.stackTraces = false) {G : GG} {Z : ZZ} (hz : ZOk G Z) (hZ : ZM Z) (v1 : Int32) (v2 : Int32) (v3 : Int32) (M : Mem)  (r : Int32) (M' : Mem) (hf : f_X2_numberOfNote v1 v2 v3 M = some (r, M')) : CN (QcI G Z r M') l G Z yX2_numberOfNote cX2_numberOfNote 8 (some .int) 2 [.ref (Z.1 7), .int v1, .int v2, .int v3] M :=
  CN.of [(0, .ref (Z.1 7)), (1, .int v1), (2, .int v2), (3, .int v3)] hl (by decide +kernel) (Nat.le_of_ble_eq_true rfl) rfl (fun _ hC => w_X2_numberOfNote hC hz hZ v1 v2 v3 M  hf)
set_option maxRecDepth 20000 in
theorem w_X2_numberOfHand {X : XX} {G : GG} {Z : ZZ} (hC : Cx X G RX2 cX2_numberOfHand (some .int) 2 0 0 6) (hz : ZOk G Z) (hZ : ZM Z) (v1 : Int32) (v2 : Int32) (v3 : Int32) (M : Mem)  {r : Int32} {M' : Mem} (hf : f_X2_numberOfHand v1 v2 v3 M = some (r, M')) : V X G Z M 0 0 (QN X G (QcI G Z r M') 0 0) 0 [(0, .ref (Z.1 7)), (1, .int v1), (2, .int v2), (3, .int v3)] [] := by
  unfold f_X2_numberOfHand at hf
  refine r_aload_n hC dX2_numberOfHand_0 0 rfl ?_
  refine r_iload_n hC dX2_numberOfHand_1 2 rfl ?_
  refine r_callVR [] (fun r M1 h => c_X2_chordAt (cx_st hC) hz hZ v2 _  r M1 h) hf cs_X2_50 hC (z_1 hZ 7 (by decide) rfl) (q0 := (RX2, TX2, 5)) rfl rfl [.int v2] rfl rfl rfl (by decide) (by decide) (Nat.le_of_ble_eq_true rfl) (by decide) (by decide) dX2_numberOfHand_2 (fun x1 M2 hf => ?_)
  have hb3 := if_K hf
  have hf := if_V hf
  refine r_astore (L' := [(4, .ref (Z.1 (iCh x1))), (0, .ref (Z.1 7)), (1, .int v1), (2, .int v2), (3, .int v3)]) hC dX2_numberOfHand_5 (by decide) rfl ?_
  refine r_aload_n hC dX2_numberOfHand_7 1 rfl ?_
  refine r_iload_n hC dX2_numberOfHand_8 3 rfl ?_
  refine r_callVI [] (fun r M1 h => c_X2_splitAt (cx_st hC) hz hZ v2 _  r M1 h) hf cs_X2_54 hC (z_1 hZ 7 (by decide) rfl) (q0 := (RX2, TX2, 5)) rfl rfl [.int v2] rfl rfl rfl (by decide) (by decide) (Nat.le_of_ble_eq_true rfl) (by decide) (by decide) dX2_numberOfHand_9 (fun x4 M5 hf => ?_)
  refine r_istore (L' := [(5, .int x4), (4, .ref (Z.1 (iCh x1))), (0, .ref (Z.1 7)), (1, .int v1), (2, .int v2), (3, .int v3)]) hC dX2_numberOfHand_12 (by decide) rfl ?_
  refine r_iload_n hC dX2_numberOfHand_14 5 rfl ?_
  by_cases e0 : v3 = 0
  · have hf := if_T hf e0
    refine r_swIn (c := 0) (tgt := 44) hC dX2_numberOfHand_15 e0 (by decide) (by decide) rfl (by decide) ?_
    refine r_aload hC dX2_numberOfHand_44 1 rfl ?_
    refine r_iload_n hC dX2_numberOfHand_46 3 rfl ?_
    refine r_iload hC dX2_numberOfHand_47 0 rfl ?_
    refine r_callVI [] (fun r M1 h => c_X0_countOf (cx_st hC) hz hZ x1 v1 x4 _ hb3 r M1 h) hf cs_X2_88 hC (z_C hZ hb3) (q0 := (RX0, TX0, 14)) rfl rfl [.int v1, .int x4] rfl rfl rfl (by decide) (by decide) (Nat.le_of_ble_eq_true rfl) (by decide) (by decide) dX2_numberOfHand_49 (fun x6 M7 hf => ?_)
    exact r_iret hf hC (by decide) (by decide) dX2_numberOfHand_52
  have hf := if_F hf e0
  by_cases e1 : v3 = 1
  · have hf := if_T hf e1
    refine r_swIn (c := 1) (tgt := 53) hC dX2_numberOfHand_15 e1 (by decide) (by decide) rfl (by decide) ?_
    refine r_aload hC dX2_numberOfHand_53 1 rfl ?_
    refine gf_X2_91 hC (z_C hZ hb3) rfl dX2_numberOfHand_55 ?_
    refine r_iload_n hC dX2_numberOfHand_58 3 rfl ?_
    have hin8 := if_K hf
    have hf := if_V hf
    refine r_gald hC (z_Cj hZ hb3 6 (by decide) rfl) (inb_vp hin8) rfl dX2_numberOfHand_59 ?_
    refine r_iload hC dX2_numberOfHand_60 0 rfl ?_
    have hin := if_K hf
    have hf := if_V hf
    refine r_iald hC (z_Ph hZ hb3 (inb_lt hin8)) (inb_vp hin) dX2_numberOfHand_62 ?_
    exact r_iret hf hC (by decide) (by decide) dX2_numberOfHand_63
  have hf := if_F hf e1
  by_cases e2 : v3 = 2
  · have hf := if_T hf e2
    refine r_swIn (c := 2) (tgt := 64) hC dX2_numberOfHand_15 e2 (by decide) (by decide) rfl (by decide) ?_
    refine r_aload hC dX2_numberOfHand_64 1 rfl ?_
    refine gf_X2_94 hC (z_C hZ hb3) rfl dX2_numberOfHand_66 ?_
    refine r_iload_n hC dX2_numberOfHand_69 3 rfl ?_
    have hin9 := if_K hf
    have hf := if_V hf
    refine r_gald hC (z_Cj hZ hb3 9 (by decide) rfl) (inb_vp hin9) rfl dX2_numberOfHand_70 ?_
    refine r_iload hC dX2_numberOfHand_71 0 rfl ?_
    have hin := if_K hf
    have hf := if_V hf
    refine r_iald hC (z_Wh hZ hb3 (inb_lt hin9)) (inb_vp hin) dX2_numberOfHand_73 ?_
    exact r_iret hf hC (by decide) (by decide) dX2_numberOfHand_74
  have hf := if_F hf e2
  by_cases e3 : v3 = 3
  · have hf := if_T hf e3
    refine r_swIn (c := 3) (tgt := 75) hC dX2_numberOfHand_15 e3 (by decide) (by decide) rfl (by decide) ?_
    refine r_aload hC dX2_numberOfHand_75 1 rfl ?_
    refine r_iload_n hC dX2_numberOfHand_77 3 rfl ?_
    refine r_iload hC dX2_numberOfHand_78 0 rfl ?_
    refine r_callVI [] (fun r M1 h => c_X0_isRolled (cx_st hC) hz hZ x1 v1 x4 _ hb3 r M1 h) hf cs_X2_97 hC (z_C hZ hb3) (q0 := (RX0, TX0, 14)) rfl rfl [.int v1, .int x4] rfl rfl rfl (by decide) (by decide) (Nat.le_of_ble_eq_true rfl) (by decide) (by decide) dX2_numberOfHand_80 (fun x10 M11 hf => ?_)
    refine r_if_eq 90 hC dX2_numberOfHand_83 (by decide) (fun h => ?_) (fun h => ?_)
    · have hf := if_T hf h
      refine r_iconst (v := 0) hC dX2_numberOfHand_90 rfl ?_
      exact r_iret hf hC (by decide) (by decide) dX2_numberOfHand_91
    · have hf := if_F hf h
      refine r_iconst (v := 1) hC dX2_numberOfHand_86 rfl ?_
      refine r_goto 91 hC dX2_numberOfHand_87 (by decide) ?_
      exact r_iret hf hC (by decide) (by decide) dX2_numberOfHand_91
  have hf := if_F hf e3
  refine r_swOut (tgt := 92) hC dX2_numberOfHand_15 (sw_out 0 3 (by decide) (by decide) (fun c hc1 hc2 => ?_)) (by decide) ?_
  · have : c = 0 ∨ c = 1 ∨ c = 2 ∨ c = 3 := by omega
    rcases this with rfl | rfl | rfl | rfl
    · exact e0
    · exact e1
    · exact e2
    · exact e3
  refine r_aload_n hC dX2_numberOfHand_92 2 rfl ?_
  refine r_iload_n hC dX2_numberOfHand_93 3 rfl ?_
  refine r_iload_n hC dX2_numberOfHand_94 4 rfl ?_
  refine r_callVI [] (fun r M1 h => c_X2_move (cx_st hC) hz hZ v1 v2 _  r M1 h) hf cs_X2_101 hC (z_1 hZ 7 (by decide) rfl) (q0 := (RX2, TX2, 5)) rfl rfl [.int v1, .int v2] rfl rfl rfl (by decide) (by decide) (Nat.le_of_ble_eq_true rfl) (by decide) (by decide) dX2_numberOfHand_95 (fun x12 M13 hf => ?_)
  exact r_iret hf hC (by decide) (by decide) dX2_numberOfHand_98
set_option maxRecDepth 20000 in
theorem c_X2_numberOfHand {l : Launch} (hl : l.stackTraces = false) {G : GG} {Z : ZZ} (hz : ZOk G Z) (hZ : ZM Z) (v1 : Int32) (v2 : Int32) (v3 : Int32) (M : Mem)  (r : Int32) (M' : Mem) (hf : f_X2_numberOfHand v1 v2 v3 M = some (r, M')) : CN (QcI G Z r M') l G Z yX2_numberOfHand cX2_numberOfHand 6 (some .int) 2 [.ref (Z.1 7), .int v1, .int v2, .int v3] M :=
  CN.of [(0, .ref (Z.1 7)), (1, .int v1), (2, .int v2), (3, .int v3)] hl (by decide +kernel) (Nat.le_of_ble_eq_true rfl) rfl (fun _ hC => w_X2_numberOfHand hC hz hZ v1 v2 v3 M  hf)
set_option maxRecDepth 20000 in
theorem w_X2_numberOfBeat {X : XX} {G : GG} {Z : ZZ} (hC : Cx X G RX2 cX2_numberOfBeat (some .int) 4 0 0 4) (hz : ZOk G Z) (hZ : ZM Z) (v1 : Int32) (v2 : Int32) (M : Mem)  {r : Int32} {M' : Mem} (hf : f_X2_numberOfBeat v1 v2 M = some (r, M')) : V X G Z M 0 0 (QN X G (QcI G Z r M') 0 0) 0 [(0, .ref (Z.1 7)), (1, .int v1), (2, .int v2)] [] := by
  unfold f_X2_numberOfBeat at hf
  refine r_aload_n hC dX2_numberOfBeat_0 0 rfl ?_
  refine r_iload_n hC dX2_numberOfBeat_1 1 rfl ?_
  refine r_callVR [] (fun r M1 h => c_X2_chordAt (cx_st hC) hz hZ v1 _  r M1 h) hf cs_X2_50 hC (z_1 hZ 7 (by decide) rfl) (q0 := (RX2, TX2, 5)) rfl rfl [.int v1] rfl rfl rfl (by decide) (by decide) (Nat.le_of_ble_eq_true rfl) (by decide) (by decide) dX2_numberOfBeat_2 (fun x1 M2 hf => ?_)
  have hb3 := if_K hf
  have hf := if_V hf
  refine r_astore_n (L' := [(3, .ref (Z.1 (iCh x1))), (0, .ref (Z.1 7)), (1, .int v1), (2, .int v2)]) hC dX2_numberOfBeat_5 (by decide) rfl ?_
  refine r_iload_n hC dX2_numberOfBeat_6 3 rfl ?_
  by_cases e0 : v2 = 0
  · have hf := if_T hf e0
    refine r_swIn (c := 0) (tgt := 36) hC dX2_numberOfBeat_7 e0 (by decide) (by decide) rfl (by decide) ?_
    refine r_aload_n hC dX2_numberOfBeat_36 1 rfl ?_
    refine r_iload_n hC dX2_numberOfBeat_37 2 rfl ?_
    refine r_callVI [] (fun r M1 h => c_X2_splitAt (cx_st hC) hz hZ v1 _  r M1 h) hf cs_X2_54 hC (z_1 hZ 7 (by decide) rfl) (q0 := (RX2, TX2, 5)) rfl rfl [.int v1] rfl rfl rfl (by decide) (by decide) (Nat.le_of_ble_eq_true rfl) (by decide) (by decide) dX2_numberOfBeat_38 (fun x4 M5 hf => ?_)
    exact r_iret hf hC (by decide) (by decide) dX2_numberOfBeat_41
  have hf := if_F hf e0
  by_cases e1 : v2 = 1
  · have hf := if_T hf e1
    refine r_swIn (c := 1) (tgt := 42) hC dX2_numberOfBeat_7 e1 (by decide) (by decide) rfl (by decide) ?_
    refine r_aload_n hC dX2_numberOfBeat_42 0 rfl ?_
    refine gf_X2_103 hC (z_C hZ hb3) rfl dX2_numberOfBeat_43 ?_
    refine r_callSI [] (fun r M1 h => c_J6_bitCount_0f7a4 (cx_st hC) hz hZ (M2 (iCh x1) 10) _  r M1 h) hf cs_X2_106 hC  rfl rfl (by decide) (by decide) (Nat.le_of_ble_eq_true rfl) (by decide) (by decide) dX2_numberOfBeat_46 (fun x6 M7 hf => ?_)
    exact r_iret hf hC (by decide) (by decide) dX2_numberOfBeat_49
  have hf := if_F hf e1
  by_cases e2 : v2 = 2
  · have hf := if_T hf e2
    refine r_swIn (c := 2) (tgt := 50) hC dX2_numberOfBeat_7 e2 (by decide) (by decide) rfl (by decide) ?_
    refine r_aload_n hC dX2_numberOfBeat_50 1 rfl ?_
    refine r_iload_n hC dX2_numberOfBeat_51 2 rfl ?_
    refine r_callVI [] (fun r M1 h => c_X2_costs (cx_st hC) hz hZ v1 _  r M1 h) hf cs_X2_111 hC (z_1 hZ 7 (by decide) rfl) (q0 := (RX2, TX2, 5)) rfl rfl [.int v1] rfl rfl rfl (by decide) (by decide) (Nat.le_of_ble_eq_true rfl) (by decide) (by decide) dX2_numberOfBeat_52 (fun x8 M9 hf => ?_)
    exact r_iret hf hC (by decide) (by decide) dX2_numberOfBeat_55
  have hf := if_F hf e2
  by_cases e3 : v2 = 3
  · have hf := if_T hf e3
    refine r_swIn (c := 3) (tgt := 56) hC dX2_numberOfBeat_7 e3 (by decide) (by decide) rfl (by decide) ?_
    refine r_aload_n hC dX2_numberOfBeat_56 0 rfl ?_
    refine gf_X2_113 hC (z_C hZ hb3) rfl dX2_numberOfBeat_57 ?_
    exact r_iret hf hC (by decide) (by decide) dX2_numberOfBeat_60
  have hf := if_F hf e3
  refine r_swOut (tgt := 61) hC dX2_numberOfBeat_7 (sw_out 0 3 (by decide) (by decide) (fun c hc1 hc2 => ?_)) (by decide) ?_
  · have : c = 0 ∨ c = 1 ∨ c = 2 ∨ c = 3 := by omega
    rcases this with rfl | rfl | rfl | rfl
    · exact e0
    · exact e1
    · exact e2
    · exact e3
  refine r_aload_n hC dX2_numberOfBeat_61 0 rfl ?_
  refine gf_X2_103 hC (z_C hZ hb3) rfl dX2_numberOfBeat_62 ?_
  exact r_iret hf hC (by decide) (by decide) dX2_numberOfBeat_65
set_option maxRecDepth 20000 in
theorem c_X2_numberOfBeat {l : Launch} (hl : l.stackTraces = false) {G : GG} {Z : ZZ} (hz : ZOk G Z) (hZ : ZM Z) (v1 : Int32) (v2 : Int32) (M : Mem)  (r : Int32) (M' : Mem) (hf : f_X2_numberOfBeat v1 v2 M = some (r, M')) : CN (QcI G Z r M') l G Z yX2_numberOfBeat cX2_numberOfBeat 4 (some .int) 4 [.ref (Z.1 7), .int v1, .int v2] M :=
  CN.of [(0, .ref (Z.1 7)), (1, .int v1), (2, .int v2)] hl (by decide +kernel) (Nat.le_of_ble_eq_true rfl) rfl (fun _ hC => w_X2_numberOfBeat hC hz hZ v1 v2 M  hf)
set_option maxRecDepth 20000 in
theorem w_X2_shareOfBeat_b112 {X : XX} {G : GG} {Z : ZZ} {r : Int32} {M' : Mem} (hC : Cx X G RX2 cX2_shareOfBeat (some .int) 4 0 0 4) (hz : ZOk G Z) (hZ : ZM Z) (v2 : Int32) (b3 : Nat) (hb3 : b3 < 17) (M : Mem) (hf : f_X2_shareOfBeat_b112 v2 b3 M = some (r, M')) : V X G Z M 0 0 (QN X G (QcI G Z r M') 0 0) 112 [(2, .int v2), (3, .ref (Z.1 (iCh b3)))] [] := by
  unfold f_X2_shareOfBeat_b112 at hf
  refine r_aload_n hC dX2_shareOfBeat_112 1 rfl ?_
  refine r_iload_n hC dX2_shareOfBeat_113 0 rfl ?_
  refine r_callVI [] (fun r M1 h => c_X0_countLeftOut (cx_st hC) hz hZ b3 v2 _ hb3 r M1 h) hf cs_X2_125 hC (z_C hZ hb3) (q0 := (RX0, TX0, 14)) rfl rfl [.int v2] rfl rfl rfl (by decide) (by decide) (Nat.le_of_ble_eq_true rfl) (by decide) (by decide) dX2_shareOfBeat_114 (fun x22 M23 hf => ?_)
  exact r_iret hf hC (by decide) (by decide) dX2_shareOfBeat_117
set_option maxRecDepth 20000 in
theorem w_X2_shareOfBeat {X : XX} {G : GG} {Z : ZZ} (hC : Cx X G RX2 cX2_shareOfBeat (some .int) 4 0 0 4) (hz : ZOk G Z) (hZ : ZM Z) (v1 : Int32) (v2 : Int32) (M : Mem)  {r : Int32} {M' : Mem} (hf : f_X2_shareOfBeat v1 v2 M = some (r, M')) : V X G Z M 0 0 (QN X G (QcI G Z r M') 0 0) 0 [(0, .ref (Z.1 7)), (1, .int v1), (2, .int v2)] [] := by
  unfold f_X2_shareOfBeat at hf
  refine r_aload_n hC dX2_shareOfBeat_0 0 rfl ?_
  refine r_iload_n hC dX2_shareOfBeat_1 1 rfl ?_
  refine r_callVR [] (fun r M1 h => c_X2_chordAt (cx_st hC) hz hZ v1 _  r M1 h) hf cs_X2_50 hC (z_1 hZ 7 (by decide) rfl) (q0 := (RX2, TX2, 5)) rfl rfl [.int v1] rfl rfl rfl (by decide) (by decide) (Nat.le_of_ble_eq_true rfl) (by decide) (by decide) dX2_shareOfBeat_2 (fun x1 M2 hf => ?_)
  have hb3 := if_K hf
  have hf := if_V hf
  refine r_astore_n (L' := [(3, .ref (Z.1 (iCh x1))), (0, .ref (Z.1 7)), (1, .int v1), (2, .int v2)]) hC dX2_shareOfBeat_5 (by decide) rfl ?_
  refine r_iload_n hC dX2_shareOfBeat_6 3 rfl ?_
  by_cases e0 : v2 = 0
  · have hf := if_T hf e0
    refine r_swIn (c := 0) (tgt := 52) hC dX2_shareOfBeat_7 e0 (by decide) (by decide) rfl (by decide) ?_
    refine r_aload_n hC dX2_shareOfBeat_52 1 rfl ?_
    refine r_iload_n hC dX2_shareOfBeat_53 2 rfl ?_
    refine r_callVI [] (fun r M1 h => c_X2_costs (cx_st hC) hz hZ v1 _  r M1 h) hf cs_X2_111 hC (z_1 hZ 7 (by decide) rfl) (q0 := (RX2, TX2, 5)) rfl rfl [.int v1] rfl rfl rfl (by decide) (by decide) (Nat.le_of_ble_eq_true rfl) (by decide) (by decide) dX2_shareOfBeat_54 (fun x4 M5 hf => ?_)
    exact r_iret hf hC (by decide) (by decide) dX2_shareOfBeat_57
  have hf := if_F hf e0
  by_cases e1 : v2 = 1
  · have hf := if_T hf e1
    refine r_swIn (c := 1) (tgt := 112) hC dX2_shareOfBeat_7 e1 (by decide) (by decide) rfl (by decide) ?_
    refine r_L [3, 0] rfl ?_
    exact w_X2_shareOfBeat_b112 hC hz hZ v2 x1 hb3 _ hf
  have hf := if_F hf e1
  by_cases e2 : v2 = 2
  · have hf := if_T hf e2
    refine r_swIn (c := 2) (tgt := 112) hC dX2_shareOfBeat_7 e2 (by decide) (by decide) rfl (by decide) ?_
    refine r_L [3, 0] rfl ?_
    exact w_X2_shareOfBeat_b112 hC hz hZ v2 x1 hb3 _ hf
  have hf := if_F hf e2
  by_cases e3 : v2 = 3
  · have hf := if_T hf e3
    refine r_swIn (c := 3) (tgt := 112) hC dX2_shareOfBeat_7 e3 (by decide) (by decide) rfl (by decide) ?_
    refine r_L [3, 0] rfl ?_
    exact w_X2_shareOfBeat_b112 hC hz hZ v2 x1 hb3 _ hf
  have hf := if_F hf e3
  by_cases e4 : v2 = 4
  · have hf := if_T hf e4
    refine r_swIn (c := 4) (tgt := 58) hC dX2_shareOfBeat_7 e4 (by decide) (by decide) rfl (by decide) ?_
    refine r_aload_n hC dX2_shareOfBeat_58 1 rfl ?_
    refine r_iload_n hC dX2_shareOfBeat_59 2 rfl ?_
    refine r_callVI [] (fun r M1 h => c_X2_cutStaves (cx_st hC) hz hZ v1 _  r M1 h) hf cs_X2_79 hC (z_1 hZ 7 (by decide) rfl) (q0 := (RX2, TX2, 5)) rfl rfl [.int v1] rfl rfl rfl (by decide) (by decide) (Nat.le_of_ble_eq_true rfl) (by decide) (by decide) dX2_shareOfBeat_60 (fun x6 M7 hf => ?_)
    refine r_callSI [] (fun r M1 h => c_J6_bitCount_0f7a4 (cx_st hC) hz hZ x6 _  r M1 h) hf cs_X2_106 hC  rfl rfl (by decide) (by decide) (Nat.le_of_ble_eq_true rfl) (by decide) (by decide) dX2_shareOfBeat_63 (fun x8 M9 hf => ?_)
    exact r_iret hf hC (by decide) (by decide) dX2_shareOfBeat_66
  have hf := if_F hf e4
  by_cases e5 : v2 = 5
  · have hf := if_T hf e5
    refine r_swIn (c := 5) (tgt := 67) hC dX2_shareOfBeat_7 e5 (by decide) (by decide) rfl (by decide) ?_
    refine r_aload_n hC dX2_shareOfBeat_67 0 rfl ?_
    refine r_aload_n hC dX2_shareOfBeat_68 1 rfl ?_
    refine r_iload_n hC dX2_shareOfBeat_69 2 rfl ?_
    refine r_callVI [.ref (Z.1 (iCh x1))] (fun r M1 h => c_X2_splitAt (cx_st hC) hz hZ v1 _  r M1 h) hf cs_X2_54 hC (z_1 hZ 7 (by decide) rfl) (q0 := (RX2, TX2, 5)) rfl rfl [.int v1] rfl rfl rfl (by decide) (by decide) (Nat.le_of_ble_eq_true rfl) (by decide) (by decide) dX2_shareOfBeat_70 (fun x10 M11 hf => ?_)
    refine r_callVI [] (fun r M1 h => c_X0_countRolled (cx_st hC) hz hZ x1 x10 _ hb3 r M1 h) hf cs_X2_119 hC (z_C hZ hb3) (q0 := (RX0, TX0, 14)) rfl rfl [.int x10] rfl rfl rfl (by decide) (by decide) (Nat.le_of_ble_eq_true rfl) (by decide) (by decide) dX2_shareOfBeat_73 (fun x12 M13 hf => ?_)
    exact r_iret hf hC (by decide) (by decide) dX2_shareOfBeat_76
  have hf := if_F hf e5
  by_cases e6 : v2 = 6
  · have hf := if_T hf e6
    refine r_swIn (c := 6) (tgt := 77) hC dX2_shareOfBeat_7 e6 (by decide) (by decide) rfl (by decide) ?_
    refine r_aload_n hC dX2_shareOfBeat_77 1 rfl ?_
    refine r_iconst (v := 0) hC dX2_shareOfBeat_78 rfl ?_
    refine r_iload_n hC dX2_shareOfBeat_79 2 rfl ?_
    refine r_callVI [] (fun r M1 h => c_X2_move (cx_st hC) hz hZ 0 v1 _  r M1 h) hf cs_X2_101 hC (z_1 hZ 7 (by decide) rfl) (q0 := (RX2, TX2, 5)) rfl rfl [.int 0, .int v1] rfl rfl rfl (by decide) (by decide) (Nat.le_of_ble_eq_true rfl) (by decide) (by decide) dX2_shareOfBeat_80 (fun x14 M15 hf => ?_)
    refine r_aload_n hC dX2_shareOfBeat_83 1 rfl ?_
    refine r_iconst (v := 1) hC dX2_shareOfBeat_84 rfl ?_
    refine r_iload_n hC dX2_shareOfBeat_85 2 rfl ?_
    refine r_callVI [.int x14] (fun r M1 h => c_X2_move (cx_st hC) hz hZ 1 v1 _  r M1 h) hf cs_X2_101 hC (z_1 hZ 7 (by decide) rfl) (q0 := (RX2, TX2, 5)) rfl rfl [.int 1, .int v1] rfl rfl rfl (by decide) (by decide) (Nat.le_of_ble_eq_true rfl) (by decide) (by decide) dX2_shareOfBeat_86 (fun x16 M17 hf => ?_)
    refine r_iadd hC dX2_shareOfBeat_89 ?_
    exact r_iret hf hC (by decide) (by decide) dX2_shareOfBeat_90
  have hf := if_F hf e6
  by_cases e7 : v2 = 7
  · have hf := if_T hf e7
    refine r_swIn (c := 7) (tgt := 91) hC dX2_shareOfBeat_7 e7 (by decide) (by decide) rfl (by decide) ?_
    refine r_aload_n hC dX2_shareOfBeat_91 0 rfl ?_
    refine gf_X2_113 hC (z_C hZ hb3) rfl dX2_shareOfBeat_92 ?_
    refine r_aload_n hC dX2_shareOfBeat_95 0 rfl ?_
    refine gf_X2_122 hC (z_C hZ hb3) rfl dX2_shareOfBeat_96 ?_
    refine r_aload_n hC dX2_shareOfBeat_99 1 rfl ?_
    refine r_iload_n hC dX2_shareOfBeat_100 2 rfl ?_
    refine r_callVI [.int (M2 (iCh x1) 7), .int (M2 (iCh x1) 9)] (fun r M1 h => c_X2_cutStaves (cx_st hC) hz hZ v1 _  r M1 h) hf cs_X2_79 hC (z_1 hZ 7 (by decide) rfl) (q0 := (RX2, TX2, 5)) rfl rfl [.int v1] rfl rfl rfl (by decide) (by decide) (Nat.le_of_ble_eq_true rfl) (by decide) (by decide) dX2_shareOfBeat_101 (fun x18 M19 hf => ?_)
    refine r_iconst (v := (-1)) hC dX2_shareOfBeat_104 rfl ?_
    refine r_ixor hC dX2_shareOfBeat_105 ?_
    refine r_iand hC dX2_shareOfBeat_106 ?_
    refine r_callSI [.int (M2 (iCh x1) 9)] (fun r M1 h => c_J6_bitCount_0f7a4 (cx_st hC) hz hZ ((M2 (iCh x1) 7) &&& (x18 ^^^ (-1))) _  r M1 h) hf cs_X2_106 hC  rfl rfl (by decide) (by decide) (Nat.le_of_ble_eq_true rfl) (by decide) (by decide) dX2_shareOfBeat_107 (fun x20 M21 hf => ?_)
    refine r_isub hC dX2_shareOfBeat_110 ?_
    exact r_iret hf hC (by decide) (by decide) dX2_shareOfBeat_111
  have hf := if_F hf e7
  refine r_swOut (tgt := 112) hC dX2_shareOfBeat_7 (sw_out 0 7 (by decide) (by decide) (fun c hc1 hc2 => ?_)) (by decide) ?_
  · have : c = 0 ∨ c = 1 ∨ c = 2 ∨ c = 3 ∨ c = 4 ∨ c = 5 ∨ c = 6 ∨ c = 7 := by omega
    rcases this with rfl | rfl | rfl | rfl | rfl | rfl | rfl | rfl
    · exact e0
    · exact e1
    · exact e2
    · exact e3
    · exact e4
    · exact e5
    · exact e6
    · exact e7
  refine r_L [3, 0] rfl ?_
  exact w_X2_shareOfBeat_b112 hC hz hZ v2 x1 hb3 _ hf
set_option maxRecDepth 20000 in
theorem c_X2_shareOfBeat {l : Launch} (hl : l.stackTraces = false) {G : GG} {Z : ZZ} (hz : ZOk G Z) (hZ : ZM Z) (v1 : Int32) (v2 : Int32) (M : Mem)  (r : Int32) (M' : Mem) (hf : f_X2_shareOfBeat v1 v2 M = some (r, M')) : CN (QcI G Z r M') l G Z yX2_shareOfBeat cX2_shareOfBeat 4 (some .int) 4 [.ref (Z.1 7), .int v1, .int v2] M :=
  CN.of [(0, .ref (Z.1 7)), (1, .int v1), (2, .int v2)] hl (by decide +kernel) (Nat.le_of_ble_eq_true rfl) rfl (fun _ hC => w_X2_shareOfBeat hC hz hZ v1 v2 M  hf)
set_option maxRecDepth 20000 in
theorem w_X2_numberOfWhole_b4 {X : XX} {G : GG} {Z : ZZ} {r : Int32} {M' : Mem} (hC : Cx X G RX2 cX2_numberOfWhole (some .int) 5 0 0 4) (hz : ZOk G Z) (hZ : ZM Z) (v1 : Int32) (k4 : Int32 → Int32 → Mem → Option (Int32 × Mem)) (hk4 : ∀ (u2 : Int32) (u3 : Int32) (M : Mem), k4 u2 u3 M = some (r, M') → V X G Z M 0 0 (QN X G (QcI G Z r M') 0 0) 4 [(0, .ref (Z.1 7)), (1, .int v1), (2, .int u2), (3, .int u3)] []) (v2 : Int32) (v3 : Int32) (M : Mem) (hf : f_X2_numberOfWhole_b4 v1 k4 v2 v3 M = some (r, M')) : V X G Z M 0 0 (QN X G (QcI G Z r M') 0 0) 4 [(0, .ref (Z.1 7)), (1, .int v1), (2, .int v2), (3, .int v3)] [] := by
  unfold f_X2_numberOfWhole_b4 at hf
  refine r_iload_n hC dX2_numberOfWhole_4 3 rfl ?_
  refine r_aload_n hC dX2_numberOfWhole_5 0 rfl ?_
  refine gf_X2_37 hC (z_1 hZ 7 (by decide) rfl) rfl dX2_numberOfWhole_6 ?_
  refine r_icmp_ge 27 hC dX2_numberOfWhole_9 (by decide) (fun h => ?_) (fun h => ?_)
  · have hf := if_T hf h
    refine r_iload_n hC dX2_numberOfWhole_27 2 rfl ?_
    exact r_iret hf hC (by decide) (by decide) dX2_numberOfWhole_28
  · have hf := if_F hf h
    refine r_iload_n hC dX2_numberOfWhole_12 2 rfl ?_
    refine r_aload_n hC dX2_numberOfWhole_13 0 rfl ?_
    refine r_iload_n hC dX2_numberOfWhole_14 3 rfl ?_
    refine r_iload_n hC dX2_numberOfWhole_15 1 rfl ?_
    refine r_callVI [.int v2] (fun r M1 h => c_X2_shareOfBeat (cx_st hC) hz hZ v3 v1 _  r M1 h) hf cs_X2_116 hC (z_1 hZ 7 (by decide) rfl) (q0 := (RX2, TX2, 5)) rfl rfl [.int v3, .int v1] rfl rfl rfl (by decide) (by decide) (Nat.le_of_ble_eq_true rfl) (by decide) (by decide) dX2_numberOfWhole_16 (fun x1 M2 hf => ?_)
    refine r_iadd hC dX2_numberOfWhole_19 ?_
    refine r_istore_n (L' := [(2, .int (v2 + x1)), (0, .ref (Z.1 7)), (1, .int v1), (3, .int v3)]) hC dX2_numberOfWhole_20 (by decide) rfl ?_
    refine r_iinc (v := v3 + 1) (L' := [(3, .int (v3 + 1)), (2, .int (v2 + x1)), (0, .ref (Z.1 7)), (1, .int v1)]) hC dX2_numberOfWhole_21 3 rfl rfl (by decide) rfl ?_
    refine r_goto 4 hC dX2_numberOfWhole_24 (by decide) ?_
    refine r_L [2, 3, 1, 0] rfl ?_
    exact hk4 _ _ _ hf
set_option maxRecDepth 20000 in
theorem w_X2_numberOfWhole {X : XX} {G : GG} {Z : ZZ} (hC : Cx X G RX2 cX2_numberOfWhole (some .int) 5 0 0 4) (hz : ZOk G Z) (hZ : ZM Z) (v1 : Int32) (M : Mem)  {r : Int32} {M' : Mem} (hf : f_X2_numberOfWhole v1 M = some (r, M')) : V X G Z M 0 0 (QN X G (QcI G Z r M') 0 0) 0 [(0, .ref (Z.1 7)), (1, .int v1)] [] := by
  unfold f_X2_numberOfWhole at hf
  refine r_iconst (v := 0) hC dX2_numberOfWhole_0 rfl ?_
  refine r_istore_n (L' := [(2, .int 0), (0, .ref (Z.1 7)), (1, .int v1)]) hC dX2_numberOfWhole_1 (by decide) rfl ?_
  refine r_iconst (v := 0) hC dX2_numberOfWhole_2 rfl ?_
  refine r_istore_n (L' := [(3, .int 0), (2, .int 0), (0, .ref (Z.1 7)), (1, .int v1)]) hC dX2_numberOfWhole_3 (by decide) rfl ?_
  refine r_L [2, 3, 1, 0] rfl ?_
  exact lq2_ind (P := fun (u2 : Int32) (u3 : Int32) (M : Mem) => V X G Z M 0 0 (QN X G (QcI G Z r M') 0 0) 4 [(0, .ref (Z.1 7)), (1, .int v1), (2, .int u2), (3, .int u3)] []) (fun kk hkk u2 u3 M hf => w_X2_numberOfWhole_b4 hC hz hZ v1 kk hkk u2 u3 M hf) _ _ _ _ hf
set_option maxRecDepth 20000 in
theorem c_X2_numberOfWhole {l : Launch} (hl : l.stackTraces = false) {G : GG} {Z : ZZ} (hz : ZOk G Z) (hZ : ZM Z) (v1 : Int32) (M : Mem)  (r : Int32) (M' : Mem) (hf : f_X2_numberOfWhole v1 M = some (r, M')) : CN (QcI G Z r M') l G Z yX2_numberOfWhole cX2_numberOfWhole 4 (some .int) 5 [.ref (Z.1 7), .int v1] M :=
  CN.of [(0, .ref (Z.1 7)), (1, .int v1)] hl (by decide +kernel) (Nat.le_of_ble_eq_true rfl) rfl (fun _ hC => w_X2_numberOfWhole hC hz hZ v1 M  hf)
