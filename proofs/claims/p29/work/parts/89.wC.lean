set_option maxRecDepth 20000 in
theorem w_X5_append {X : XX} {G : GG} {Z : ZZ} (hC : Cx X G RX5 cX5_append (some .int) 6 1 6 2) (hz : ZOk G Z) (hZ : ZM Z) (hno : ∀ x ∈ (xc X).exceptionTable.toList, False) (v1 : Int32) (M : Mem)  {r : Except Nat Int32} {M' : Mem} (hf : f_X5_append v1 M = some (r, M')) : V X G Z M 0 0 (QT X G (QcTI G Z r M') (XcT G Z r M') 1 6) 0 [(0, .ref (Z.1 0)), (1, .int v1)] [] := by
  unfold f_X5_append at hf
  refine r_iload_n hC dX5_append_0 1 rfl ?_
  refine r_if_lt 11 hC dX5_append_1 (by decide) (fun h => ?_) (fun h => ?_)
  · have hf := if_T hf h
    exact r_throw hf hC hno th_iae dX5_append_11 dX5_append_14 dX5_append_15 dX5_append_18 (by decide) (by decide) (by decide) (by decide)
  · have hf := if_F hf h
    refine r_iload_n hC dX5_append_4 1 rfl ?_
    refine r_sipush (v := 255) hC dX5_append_5 rfl ?_
    refine r_icmp_le 19 hC dX5_append_8 (by decide) (fun h => ?_) (fun h => ?_)
    · have hf := if_T hf h
      refine r_aload_n hC dX5_append_19 0 rfl ?_
      refine gf_X5_12 hC (z_1 hZ 0 (by decide) rfl) rfl dX5_append_20 ?_
      refine r_callVI [] (fun r M1 h => c_X4_isFull (cx_st hC) hz hZ  _  r M1 h) hf cs_X5_51 hC (z_1 hZ 1 (by decide) rfl) (q0 := (RX4, TX4, 3)) rfl rfl [] rfl rfl rfl (by decide) (by decide) (Nat.le_of_ble_eq_true rfl) (by decide) (by decide) dX5_append_23 (fun x1 M2 hf => ?_)
      refine r_if_eq 37 hC dX5_append_26 (by decide) (fun h => ?_) (fun h => ?_)
      · have hf := if_T hf h
        refine r_aload_n hC dX5_append_37 0 rfl ?_
        refine gf_X5_12 hC (z_1 hZ 0 (by decide) rfl) rfl dX5_append_38 ?_
        refine r_iload_n hC dX5_append_41 1 rfl ?_
        refine r_i2c hC dX5_append_42 ?_
        refine r_callVI [] (fun r M1 h => c_X4_add (cx_st hC) hz hZ ((Int32.toUInt32 v1 % 65536).toInt32) _  r M1 h) hf cs_X5_58 hC (z_1 hZ 1 (by decide) rfl) (q0 := (RX4, TX4, 3)) rfl rfl [.int ((Int32.toUInt32 v1 % 65536).toInt32)] rfl rfl rfl (by decide) (by decide) (Nat.le_of_ble_eq_true rfl) (by decide) (by decide) dX5_append_43 (fun x3 M4 hf => ?_)
        exact r_iretT hf hC (by decide) (by decide) dX5_append_46
      · have hf := if_F hf h
        exact r_throw hf hC hno th_ise dX5_append_29 dX5_append_32 dX5_append_33 dX5_append_36 (by decide) (by decide) (by decide) (by decide)
    · have hf := if_F hf h
      exact r_throw hf hC hno th_iae dX5_append_11 dX5_append_14 dX5_append_15 dX5_append_18 (by decide) (by decide) (by decide) (by decide)
set_option maxRecDepth 20000 in
theorem c_X5_append {l : Launch} (hl : l.stackTraces = false) {G : GG} {Z : ZZ} (hz : ZOk G Z) (hZ : ZM Z) (v1 : Int32) (M : Mem)  (r : Except Nat Int32) (M' : Mem) (hf : f_X5_append v1 M = some (r, M')) : CTw (QcTI G Z r M') (XcT G Z r M') l G Z yX5_append cX5_append 2 (some .int) 6 1 6 [.ref (Z.1 0), .int v1] M :=
  CTw.of [(0, .ref (Z.1 0)), (1, .int v1)] hl (by decide +kernel) (Nat.le_of_ble_eq_true rfl) rfl (fun _ hC hno => w_X5_append hC hz hZ hno v1 M  hf)
set_option maxRecDepth 20000 in
theorem w_X5_clearText {X : XX} {G : GG} {Z : ZZ} (hC : Cx X G RX5 cX5_clearText (some .int) 1 0 0 1) (hz : ZOk G Z) (hZ : ZM Z)  (M : Mem)  {r : Int32} {M' : Mem} (hf : f_X5_clearText  M = some (r, M')) : V X G Z M 0 0 (QN X G (QcI G Z r M') 0 0) 0 [(0, .ref (Z.1 0))] [] := by
  unfold f_X5_clearText at hf
  refine r_aload_n hC dX5_clearText_0 0 rfl ?_
  refine gf_X5_12 hC (z_1 hZ 0 (by decide) rfl) rfl dX5_clearText_1 ?_
  refine r_callVI [] (fun r M1 h => c_X4_empty (cx_st hC) hz hZ  _  r M1 h) hf cs_X5_62 hC (z_1 hZ 1 (by decide) rfl) (q0 := (RX4, TX4, 3)) rfl rfl [] rfl rfl rfl (by decide) (by decide) (Nat.le_of_ble_eq_true rfl) (by decide) (by decide) dX5_clearText_4 (fun x1 M2 hf => ?_)
  exact r_iret hf hC (by decide) (by decide) dX5_clearText_7
set_option maxRecDepth 20000 in
theorem c_X5_clearText {l : Launch} (hl : l.stackTraces = false) {G : GG} {Z : ZZ} (hz : ZOk G Z) (hZ : ZM Z)  (M : Mem)  (r : Int32) (M' : Mem) (hf : f_X5_clearText  M = some (r, M')) : CN (QcI G Z r M') l G Z yX5_clearText cX5_clearText 1 (some .int) 1 [.ref (Z.1 0)] M :=
  CN.of [(0, .ref (Z.1 0))] hl (by decide +kernel) (Nat.le_of_ble_eq_true rfl) rfl (fun _ hC => w_X5_clearText hC hz hZ  M  hf)
set_option maxRecDepth 20000 in
theorem w_X5_errorPosition {X : XX} {G : GG} {Z : ZZ} (hC : Cx X G RX5 cX5_errorPosition (some .int) 5 0 0 1) (hz : ZOk G Z) (hZ : ZM Z)  (M : Mem)  {r : Int32} {M' : Mem} (hf : f_X5_errorPosition  M = some (r, M')) : V X G Z M 0 0 (QN X G (QcI G Z r M') 0 0) 0 [(0, .ref (Z.1 0))] [] := by
  unfold f_X5_errorPosition at hf
  refine r_aload_n hC dX5_errorPosition_0 0 rfl ?_
  refine gf_X5_12 hC (z_1 hZ 0 (by decide) rfl) rfl dX5_errorPosition_1 ?_
  refine r_aload_n hC dX5_errorPosition_4 0 rfl ?_
  refine gf_X5_23 hC (z_1 hZ 0 (by decide) rfl) rfl dX5_errorPosition_5 ?_
  refine r_callVI [] (fun r M1 h => c_X4_readInto (cx_st hC) hz hZ 1 _ (by decide) r M1 h) hf cs_X5_66 hC (z_1 hZ 1 (by decide) rfl) (q0 := (RX4, TX4, 3)) rfl rfl [.ref (Z.1 (iSt 1))] rfl rfl rfl (by decide) (by decide) (Nat.le_of_ble_eq_true rfl) (by decide) (by decide) dX5_errorPosition_8 (fun x1 M2 hf => ?_)
  exact r_iret hf hC (by decide) (by decide) dX5_errorPosition_11
set_option maxRecDepth 20000 in
theorem c_X5_errorPosition {l : Launch} (hl : l.stackTraces = false) {G : GG} {Z : ZZ} (hz : ZOk G Z) (hZ : ZM Z)  (M : Mem)  (r : Int32) (M' : Mem) (hf : f_X5_errorPosition  M = some (r, M')) : CN (QcI G Z r M') l G Z yX5_errorPosition cX5_errorPosition 1 (some .int) 5 [.ref (Z.1 0)] M :=
  CN.of [(0, .ref (Z.1 0))] hl (by decide +kernel) (Nat.le_of_ble_eq_true rfl) rfl (fun _ hC => w_X5_errorPosition hC hz hZ  M  hf)
set_option maxRecDepth 20000 in
theorem w_X5_load_b51 {X : XX} {G : GG} {Z : ZZ} {r : Except Nat Int32} {M' : Mem} (hC : Cx X G RX5 cX5_load (some .int) 6 1 6 2) (hz : ZOk G Z) (hZ : ZM Z) (hno : ∀ x ∈ (xc X).exceptionTable.toList, False) (k51 : Int32 → Mem → Option (Except Nat Int32 × Mem)) (hk51 : ∀ (u1 : Int32) (M : Mem), k51 u1 M = some (r, M') → V X G Z M 0 0 (QT X G (QcTI G Z r M') (XcT G Z r M') 1 6) 51 [(0, .ref (Z.1 0)), (1, .int u1)] []) (v1 : Int32) (M : Mem) (hf : f_X5_load_b51 k51 v1 M = some (r, M')) : V X G Z M 0 0 (QT X G (QcTI G Z r M') (XcT G Z r M') 1 6) 51 [(0, .ref (Z.1 0)), (1, .int v1)] [] := by
  unfold f_X5_load_b51 at hf
  refine r_iload_n hC dX5_load_51 1 rfl ?_
  refine r_iconst (v := 2) hC dX5_load_52 rfl ?_
  refine r_icmp_ge 69 hC dX5_load_53 (by decide) (fun h => ?_) (fun h => ?_)
  · have hf := if_T hf h
    refine r_aload_n hC dX5_load_69 0 rfl ?_
    refine gf_X5_19 hC (z_1 hZ 0 (by decide) rfl) rfl dX5_load_70 ?_
    refine gf_X5_80 hC (z_S hZ (by decide)) rfl dX5_load_73 ?_
    exact r_iretT hf hC (by decide) (by decide) dX5_load_76
  · have hf := if_F hf h
    refine r_aload_n hC dX5_load_56 0 rfl ?_
    refine gf_X5_44 hC (z_1 hZ 0 (by decide) rfl) rfl dX5_load_57 ?_
    refine r_iload_n hC dX5_load_60 1 rfl ?_
    refine r_iconst (v := 0) hC dX5_load_61 rfl ?_
    have hin := if_K hf
    have hf := if_V hf
    refine r_zast hC hz (z_1 hZ 6 (by decide) rfl) (inb_vp hin) dX5_load_62 ?_
    refine r_iinc (v := v1 + 1) (L' := [(1, .int (v1 + 1)), (0, .ref (Z.1 0))]) hC dX5_load_63 1 rfl rfl (by decide) rfl ?_
    refine r_goto 51 hC dX5_load_66 (by decide) ?_
    refine r_L [1, 0] rfl ?_
    exact hk51 _ _ hf
set_option maxRecDepth 20000 in
theorem w_X5_load {X : XX} {G : GG} {Z : ZZ} (hC : Cx X G RX5 cX5_load (some .int) 6 1 6 2) (hz : ZOk G Z) (hZ : ZM Z) (hno : ∀ x ∈ (xc X).exceptionTable.toList, False)  (M : Mem)  {r : Except Nat Int32} {M' : Mem} (hf : f_X5_load  M = some (r, M')) : V X G Z M 0 0 (QT X G (QcTI G Z r M') (XcT G Z r M') 1 6) 0 [(0, .ref (Z.1 0))] [] := by
  unfold f_X5_load at hf
  refine r_aload_n hC dX5_load_0 0 rfl ?_
  refine gf_X5_12 hC (z_1 hZ 0 (by decide) rfl) rfl dX5_load_1 ?_
  refine r_aload_n hC dX5_load_4 0 rfl ?_
  refine gf_X5_23 hC (z_1 hZ 0 (by decide) rfl) rfl dX5_load_5 ?_
  refine r_callVI [] (fun r M1 h => c_X4_readInto (cx_st hC) hz hZ 1 _ (by decide) r M1 h) hf cs_X5_66 hC (z_1 hZ 1 (by decide) rfl) (q0 := (RX4, TX4, 3)) rfl rfl [.ref (Z.1 (iSt 1))] rfl rfl rfl (by decide) (by decide) (Nat.le_of_ble_eq_true rfl) (by decide) (by decide) dX5_load_8 (fun x1 M2 hf => ?_)
  refine r_bipush (v := (-9)) hC dX5_load_11 rfl ?_
  refine r_icmp_eq 24 hC dX5_load_13 (by decide) (fun h => ?_) (fun h => ?_)
  · have hf := if_T hf h
    refine r_aload_n hC dX5_load_24 0 rfl ?_
    refine gf_X5_23 hC (z_1 hZ 0 (by decide) rfl) rfl dX5_load_25 ?_
    refine r_callVV [] (fun r M1 h => c_X3_resetSettings (cx_st hC) hz hZ 1 _ (by decide) r M1 h) hf cs_X5_70 hC (z_S hZ (by decide)) (q0 := (RX3, TX3, 4)) rfl rfl [] rfl rfl rfl (by decide) (by decide) (Nat.le_of_ble_eq_true rfl) (by decide) (by decide) dX5_load_28 (fun x3 M4 hf => ?_)
    refine r_aload_n hC dX5_load_31 0 rfl ?_
    refine gf_X5_19 hC (z_1 hZ 0 (by decide) rfl) rfl dX5_load_32 ?_
    refine r_aload_n hC dX5_load_35 0 rfl ?_
    refine gf_X5_23 hC (z_1 hZ 0 (by decide) rfl) rfl dX5_load_36 ?_
    refine r_callVV [] (fun r M1 h => c_X3_takeFrom (cx_st hC) hz hZ 0 1 _ (by decide) (by decide) r M1 h) hf cs_X5_73 hC (z_S hZ (by decide)) (q0 := (RX3, TX3, 4)) rfl rfl [.ref (Z.1 (iSt 1))] rfl rfl rfl (by decide) (by decide) (Nat.le_of_ble_eq_true rfl) (by decide) (by decide) dX5_load_39 (fun x5 M6 hf => ?_)
    refine r_aload_n hC dX5_load_42 0 rfl ?_
    refine gf_X5_36 hC (z_1 hZ 0 (by decide) rfl) rfl dX5_load_43 ?_
    refine r_callVV [] (fun r M1 h => c_X1_forget (cx_st hC) hz hZ  _  r M1 h) hf cs_X5_77 hC (z_1 hZ 3 (by decide) rfl) (q0 := (RX1, TX1, 3)) rfl rfl [] rfl rfl rfl (by decide) (by decide) (Nat.le_of_ble_eq_true rfl) (by decide) (by decide) dX5_load_46 (fun x7 M8 hf => ?_)
    refine r_iconst (v := 0) hC dX5_load_49 rfl ?_
    refine r_istore_n (L' := [(1, .int 0), (0, .ref (Z.1 0))]) hC dX5_load_50 (by decide) rfl ?_
    refine r_L [1, 0] rfl ?_
    exact lq1_ind (P := fun (u1 : Int32) (M : Mem) => V X G Z M 0 0 (QT X G (QcTI G Z r M') (XcT G Z r M') 1 6) 51 [(0, .ref (Z.1 0)), (1, .int u1)] []) (fun kk hkk u1 M hf => w_X5_load_b51 hC hz hZ hno  kk hkk u1 M hf) _ _ _ hf
  · have hf := if_F hf h
    exact r_throw hf hC hno th_ise dX5_load_16 dX5_load_19 dX5_load_20 dX5_load_23 (by decide) (by decide) (by decide) (by decide)
set_option maxRecDepth 20000 in
theorem c_X5_load {l : Launch} (hl : l.stackTraces = false) {G : GG} {Z : ZZ} (hz : ZOk G Z) (hZ : ZM Z)  (M : Mem)  (r : Except Nat Int32) (M' : Mem) (hf : f_X5_load  M = some (r, M')) : CTw (QcTI G Z r M') (XcT G Z r M') l G Z yX5_load cX5_load 2 (some .int) 6 1 6 [.ref (Z.1 0)] M :=
  CTw.of [(0, .ref (Z.1 0))] hl (by decide +kernel) (Nat.le_of_ble_eq_true rfl) rfl (fun _ hC hno => w_X5_load hC hz hZ hno  M  hf)
set_option maxRecDepth 20000 in
theorem w_X5_about_b19 {X : XX} {G : GG} {Z : ZZ} {r : Except Nat Int32} {M' : Mem} (hC : Cx X G RX5 cX5_about (some .int) 6 1 6 2) (hz : ZOk G Z) (hZ : ZM Z) (hno : ∀ x ∈ (xc X).exceptionTable.toList, False) (v1 : Int32) (M : Mem) (hf : f_X5_about_b19 v1 M = some (r, M')) : V X G Z M 0 0 (QT X G (QcTI G Z r M') (XcT G Z r M') 1 6) 19 [(0, .ref (Z.1 0)), (1, .int v1)] [] := by
  unfold f_X5_about_b19 at hf
  refine r_iload_n hC dX5_about_19 1 rfl ?_
  by_cases e6 : v1 = 6
  · have hf := if_T hf e6
    refine r_swIn (c := 6) (tgt := 52) hC dX5_about_20 e6 (by decide) (by decide) rfl (by decide) ?_
    refine r_aload_n hC dX5_about_52 0 rfl ?_
    refine gf_X5_19 hC (z_1 hZ 0 (by decide) rfl) rfl dX5_about_53 ?_
    refine gf_X5_88 hC (z_S hZ (by decide)) rfl dX5_about_56 ?_
    exact r_iretT hf hC (by decide) (by decide) dX5_about_59
  have hf := if_F hf e6
  by_cases e7 : v1 = 7
  · have hf := if_T hf e7
    refine r_swIn (c := 7) (tgt := 60) hC dX5_about_20 e7 (by decide) (by decide) rfl (by decide) ?_
    refine r_aload_n hC dX5_about_60 0 rfl ?_
    refine gf_X5_19 hC (z_1 hZ 0 (by decide) rfl) rfl dX5_about_61 ?_
    refine gf_X5_80 hC (z_S hZ (by decide)) rfl dX5_about_64 ?_
    exact r_iretT hf hC (by decide) (by decide) dX5_about_67
  have hf := if_F hf e7
  by_cases e8 : v1 = 8
  · have hf := if_T hf e8
    refine r_swIn (c := 8) (tgt := 68) hC dX5_about_20 e8 (by decide) (by decide) rfl (by decide) ?_
    refine r_aload_n hC dX5_about_68 0 rfl ?_
    refine gf_X5_19 hC (z_1 hZ 0 (by decide) rfl) rfl dX5_about_69 ?_
    refine r_callVI [] (fun r M1 h => c_X3_countStruck (cx_st hC) hz hZ 0 _ (by decide) r M1 h) hf cs_X5_91 hC (z_S hZ (by decide)) (q0 := (RX3, TX3, 4)) rfl rfl [] rfl rfl rfl (by decide) (by decide) (Nat.le_of_ble_eq_true rfl) (by decide) (by decide) dX5_about_72 (fun x3 M4 hf => ?_)
    exact r_iretT hf hC (by decide) (by decide) dX5_about_75
  have hf := if_F hf e8
  by_cases e9 : v1 = 9
  · have hf := if_T hf e9
    refine r_swIn (c := 9) (tgt := 76) hC dX5_about_20 e9 (by decide) (by decide) rfl (by decide) ?_
    refine r_aload_n hC dX5_about_76 0 rfl ?_
    refine gf_X5_19 hC (z_1 hZ 0 (by decide) rfl) rfl dX5_about_77 ?_
    refine r_callVI [] (fun r M1 h => c_X3_countHolds (cx_st hC) hz hZ 0 _ (by decide) r M1 h) hf cs_X5_94 hC (z_S hZ (by decide)) (q0 := (RX3, TX3, 4)) rfl rfl [] rfl rfl rfl (by decide) (by decide) (Nat.le_of_ble_eq_true rfl) (by decide) (by decide) dX5_about_80 (fun x5 M6 hf => ?_)
    exact r_iretT hf hC (by decide) (by decide) dX5_about_83
  have hf := if_F hf e9
  refine r_swOut (tgt := 84) hC dX5_about_20 (sw_out 6 9 (by decide) (by decide) (fun c hc1 hc2 => ?_)) (by decide) ?_
  · have : c = 6 ∨ c = 7 ∨ c = 8 ∨ c = 9 := by omega
    rcases this with rfl | rfl | rfl | rfl
    · exact e6
    · exact e7
    · exact e8
    · exact e9
  exact r_throw hf hC hno th_iae dX5_about_84 dX5_about_87 dX5_about_88 dX5_about_91 (by decide) (by decide) (by decide) (by decide)
set_option maxRecDepth 20000 in
theorem w_X5_about {X : XX} {G : GG} {Z : ZZ} (hC : Cx X G RX5 cX5_about (some .int) 6 1 6 2) (hz : ZOk G Z) (hZ : ZM Z) (hno : ∀ x ∈ (xc X).exceptionTable.toList, False) (v1 : Int32) (M : Mem)  {r : Except Nat Int32} {M' : Mem} (hf : f_X5_about v1 M = some (r, M')) : V X G Z M 0 0 (QT X G (QcTI G Z r M') (XcT G Z r M') 1 6) 0 [(0, .ref (Z.1 0)), (1, .int v1)] [] := by
  unfold f_X5_about at hf
  refine r_iload_n hC dX5_about_0 1 rfl ?_
  refine r_if_lt 19 hC dX5_about_1 (by decide) (fun h => ?_) (fun h => ?_)
  · have hf := if_T hf h
    exact w_X5_about_b19 hC hz hZ hno v1 _ hf
  · have hf := if_F hf h
    refine r_iload_n hC dX5_about_4 1 rfl ?_
    refine r_bipush (v := 6) hC dX5_about_5 rfl ?_
    refine r_icmp_ge 19 hC dX5_about_7 (by decide) (fun h => ?_) (fun h => ?_)
    · have hf := if_T hf h
      exact w_X5_about_b19 hC hz hZ hno v1 _ hf
    · have hf := if_F hf h
      refine r_aload_n hC dX5_about_10 0 rfl ?_
      refine gf_X5_19 hC (z_1 hZ 0 (by decide) rfl) rfl dX5_about_11 ?_
      refine r_iload_n hC dX5_about_14 1 rfl ?_
      refine r_callVI [] (fun r M1 h => c_X3_settingAt (cx_st hC) hz hZ 0 v1 _ (by decide) r M1 h) hf cs_X5_84 hC (z_S hZ (by decide)) (q0 := (RX3, TX3, 4)) rfl rfl [.int v1] rfl rfl rfl (by decide) (by decide) (Nat.le_of_ble_eq_true rfl) (by decide) (by decide) dX5_about_15 (fun x1 M2 hf => ?_)
      exact r_iretT hf hC (by decide) (by decide) dX5_about_18
set_option maxRecDepth 20000 in
theorem c_X5_about {l : Launch} (hl : l.stackTraces = false) {G : GG} {Z : ZZ} (hz : ZOk G Z) (hZ : ZM Z) (v1 : Int32) (M : Mem)  (r : Except Nat Int32) (M' : Mem) (hf : f_X5_about v1 M = some (r, M')) : CTw (QcTI G Z r M') (XcT G Z r M') l G Z yX5_about cX5_about 2 (some .int) 6 1 6 [.ref (Z.1 0), .int v1] M :=
  CTw.of [(0, .ref (Z.1 0)), (1, .int v1)] hl (by decide +kernel) (Nat.le_of_ble_eq_true rfl) rfl (fun _ hC hno => w_X5_about hC hz hZ hno v1 M  hf)
set_option maxRecDepth 20000 in
theorem w_X5_requireBeat {X : XX} {G : GG} {Z : ZZ} (hC : Cx X G RX5 cX5_requireBeat none 6 1 6 2) (hz : ZOk G Z) (hZ : ZM Z) (hno : ∀ x ∈ (xc X).exceptionTable.toList, False) (v1 : Int32) (M : Mem)  {r : Except Nat Unit} {M' : Mem} (hf : f_X5_requireBeat v1 M = some (r, M')) : V X G Z M 0 0 (QT X G (QcTV G Z r M') (XcT G Z r M') 1 6) 0 [(0, .ref (Z.1 0)), (1, .int v1)] [] := by
  unfold f_X5_requireBeat at hf
  refine r_aload_n hC dX5_requireBeat_0 0 rfl ?_
  refine gf_X5_19 hC (z_1 hZ 0 (by decide) rfl) rfl dX5_requireBeat_1 ?_
  refine r_iload_n hC dX5_requireBeat_4 1 rfl ?_
  refine r_callVI [] (fun r M1 h => c_X3_hasBeat (cx_st hC) hz hZ 0 v1 _ (by decide) r M1 h) hf cs_X5_217 hC (z_S hZ (by decide)) (q0 := (RX3, TX3, 4)) rfl rfl [.int v1] rfl rfl rfl (by decide) (by decide) (Nat.le_of_ble_eq_true rfl) (by decide) (by decide) dX5_requireBeat_5 (fun x1 M2 hf => ?_)
  refine r_if_ne 19 hC dX5_requireBeat_8 (by decide) (fun h => ?_) (fun h => ?_)
  · have hf := if_F hf h
    exact r_vretT hf hC (by decide) (by decide) dX5_requireBeat_19
  · have hf := if_T hf h
    exact r_throw hf hC hno th_iob dX5_requireBeat_11 dX5_requireBeat_14 dX5_requireBeat_15 dX5_requireBeat_18 (by decide) (by decide) (by decide) (by decide)
set_option maxRecDepth 20000 in
theorem c_X5_requireBeat {l : Launch} (hl : l.stackTraces = false) {G : GG} {Z : ZZ} (hz : ZOk G Z) (hZ : ZM Z) (v1 : Int32) (M : Mem)  (r : Except Nat Unit) (M' : Mem) (hf : f_X5_requireBeat v1 M = some (r, M')) : CTw (QcTV G Z r M') (XcT G Z r M') l G Z yX5_requireBeat cX5_requireBeat 2 none 6 1 6 [.ref (Z.1 0), .int v1] M :=
  CTw.of [(0, .ref (Z.1 0)), (1, .int v1)] hl (by decide +kernel) (Nat.le_of_ble_eq_true rfl) rfl (fun _ hC hno => w_X5_requireBeat hC hz hZ hno v1 M  hf)
set_option maxRecDepth 20000 in
theorem wk_X5_requireBeat {X : XX} {G : GG} {Z : ZZ} (hC : Cx X G RX5 cX5_requireBeat none 6 0 0 2) (hz : ZOk G Z) (hZ : ZM Z) (v1 : Int32) (M : Mem)  {r : Unit} {M' : Mem} (hf : f_X5_requireBeat v1 M = some (.ok r, M')) : V X G Z M 0 0 (QN X G (QcV G Z r M') 0 0) 0 [(0, .ref (Z.1 0)), (1, .int v1)] [] := by
  unfold f_X5_requireBeat at hf
  refine r_aload_n hC dX5_requireBeat_0 0 rfl ?_
  refine gf_X5_19 hC (z_1 hZ 0 (by decide) rfl) rfl dX5_requireBeat_1 ?_
  refine r_iload_n hC dX5_requireBeat_4 1 rfl ?_
  refine r_callVI [] (fun r M1 h => c_X3_hasBeat (cx_st hC) hz hZ 0 v1 _ (by decide) r M1 h) hf cs_X5_217 hC (z_S hZ (by decide)) (q0 := (RX3, TX3, 4)) rfl rfl [.int v1] rfl rfl rfl (by decide) (by decide) (Nat.le_of_ble_eq_true rfl) (by decide) (by decide) dX5_requireBeat_5 (fun x1 M2 hf => ?_)
  refine r_if_ne 19 hC dX5_requireBeat_8 (by decide) (fun h => ?_) (fun h => ?_)
  · have hf := if_F hf h
    exact r_vret (by cases hf; rfl) hC (by decide) (by decide) dX5_requireBeat_19
  · have hf := if_T hf h
    cases hf
set_option maxRecDepth 20000 in
theorem k_X5_requireBeat {l : Launch} (hl : l.stackTraces = false) {G : GG} {Z : ZZ} (hz : ZOk G Z) (hZ : ZM Z) (v1 : Int32) (M : Mem)  (r : Unit) (M' : Mem) (hf : f_X5_requireBeat v1 M = some (.ok r, M')) : CN (QcV G Z r M') l G Z yX5_requireBeat cX5_requireBeat 2 none 6 [.ref (Z.1 0), .int v1] M :=
  CN.of [(0, .ref (Z.1 0)), (1, .int v1)] hl (by decide +kernel) (Nat.le_of_ble_eq_true rfl) rfl (fun _ hC => wk_X5_requireBeat hC hz hZ v1 M hf)
set_option maxRecDepth 20000 in
theorem w_X5_requireStaff {X : XX} {G : GG} {Z : ZZ} (hC : Cx X G RX5 cX5_requireStaff none 6 1 6 2) (hz : ZOk G Z) (hZ : ZM Z) (hno : ∀ x ∈ (xc X).exceptionTable.toList, False) (v1 : Int32) (M : Mem)  {r : Except Nat Unit} {M' : Mem} (hf : f_X5_requireStaff v1 M = some (r, M')) : V X G Z M 0 0 (QT X G (QcTV G Z r M') (XcT G Z r M') 1 6) 0 [(0, .ref (Z.1 0)), (1, .int v1)] [] := by
  unfold f_X5_requireStaff at hf
  refine r_aload_n hC dX5_requireStaff_0 0 rfl ?_
  refine gf_X5_19 hC (z_1 hZ 0 (by decide) rfl) rfl dX5_requireStaff_1 ?_
  refine r_iload_n hC dX5_requireStaff_4 1 rfl ?_
  refine r_callVI [] (fun r M1 h => c_X3_hasStaff (cx_st hC) hz hZ 0 v1 _ (by decide) r M1 h) hf cs_X5_214 hC (z_S hZ (by decide)) (q0 := (RX3, TX3, 4)) rfl rfl [.int v1] rfl rfl rfl (by decide) (by decide) (Nat.le_of_ble_eq_true rfl) (by decide) (by decide) dX5_requireStaff_5 (fun x1 M2 hf => ?_)
  refine r_if_ne 19 hC dX5_requireStaff_8 (by decide) (fun h => ?_) (fun h => ?_)
  · have hf := if_F hf h
    exact r_vretT hf hC (by decide) (by decide) dX5_requireStaff_19
  · have hf := if_T hf h
    exact r_throw hf hC hno th_iob dX5_requireStaff_11 dX5_requireStaff_14 dX5_requireStaff_15 dX5_requireStaff_18 (by decide) (by decide) (by decide) (by decide)
set_option maxRecDepth 20000 in
theorem c_X5_requireStaff {l : Launch} (hl : l.stackTraces = false) {G : GG} {Z : ZZ} (hz : ZOk G Z) (hZ : ZM Z) (v1 : Int32) (M : Mem)  (r : Except Nat Unit) (M' : Mem) (hf : f_X5_requireStaff v1 M = some (r, M')) : CTw (QcTV G Z r M') (XcT G Z r M') l G Z yX5_requireStaff cX5_requireStaff 2 none 6 1 6 [.ref (Z.1 0), .int v1] M :=
  CTw.of [(0, .ref (Z.1 0)), (1, .int v1)] hl (by decide +kernel) (Nat.le_of_ble_eq_true rfl) rfl (fun _ hC hno => w_X5_requireStaff hC hz hZ hno v1 M  hf)
set_option maxRecDepth 20000 in
theorem wk_X5_requireStaff {X : XX} {G : GG} {Z : ZZ} (hC : Cx X G RX5 cX5_requireStaff none 6 0 0 2) (hz : ZOk G Z) (hZ : ZM Z) (v1 : Int32) (M : Mem)  {r : Unit} {M' : Mem} (hf : f_X5_requireStaff v1 M = some (.ok r, M')) : V X G Z M 0 0 (QN X G (QcV G Z r M') 0 0) 0 [(0, .ref (Z.1 0)), (1, .int v1)] [] := by
  unfold f_X5_requireStaff at hf
  refine r_aload_n hC dX5_requireStaff_0 0 rfl ?_
  refine gf_X5_19 hC (z_1 hZ 0 (by decide) rfl) rfl dX5_requireStaff_1 ?_
  refine r_iload_n hC dX5_requireStaff_4 1 rfl ?_
  refine r_callVI [] (fun r M1 h => c_X3_hasStaff (cx_st hC) hz hZ 0 v1 _ (by decide) r M1 h) hf cs_X5_214 hC (z_S hZ (by decide)) (q0 := (RX3, TX3, 4)) rfl rfl [.int v1] rfl rfl rfl (by decide) (by decide) (Nat.le_of_ble_eq_true rfl) (by decide) (by decide) dX5_requireStaff_5 (fun x1 M2 hf => ?_)
  refine r_if_ne 19 hC dX5_requireStaff_8 (by decide) (fun h => ?_) (fun h => ?_)
  · have hf := if_F hf h
    exact r_vret (by cases hf; rfl) hC (by decide) (by decide) dX5_requireStaff_19
  · have hf := if_T hf h
    cases hf
set_option maxRecDepth 20000 in
theorem k_X5_requireStaff {l : Launch} (hl : l.stackTraces = false) {G : GG} {Z : ZZ} (hz : ZOk G Z) (hZ : ZM Z) (v1 : Int32) (M : Mem)  (r : Unit) (M' : Mem) (hf : f_X5_requireStaff v1 M = some (.ok r, M')) : CN (QcV G Z r M') l G Z yX5_requireStaff cX5_requireStaff 2 none 6 [.ref (Z.1 0), .int v1] M :=
  CN.of [(0, .ref (Z.1 0)), (1, .int v1)] hl (by decide +kernel) (Nat.le_of_ble_eq_true rfl) rfl (fun _ hC => wk_X5_requireStaff hC hz hZ v1 M hf)
set_option maxRecDepth 20000 in
theorem w_X5_requireCell {X : XX} {G : GG} {Z : ZZ} (hC : Cx X G RX5 cX5_requireCell none 7 1 6 3) (hz : ZOk G Z) (hZ : ZM Z) (hno : ∀ x ∈ (xc X).exceptionTable.toList, False) (v1 : Int32) (v2 : Int32) (M : Mem)  {r : Except Nat Unit} {M' : Mem} (hf : f_X5_requireCell v1 v2 M = some (r, M')) : V X G Z M 0 0 (QT X G (QcTV G Z r M') (XcT G Z r M') 1 6) 0 [(0, .ref (Z.1 0)), (1, .int v1), (2, .int v2)] [] := by
  unfold f_X5_requireCell at hf
  refine r_aload_n hC dX5_requireCell_0 0 rfl ?_
  refine r_iload_n hC dX5_requireCell_1 1 rfl ?_
  refine r_tcallVV [] (fun r M1 h => c_X5_requireStaff (cx_st hC) hz hZ v1 _  r M1 h) (fun r M1 h => k_X5_requireStaff (cx_st hC) hz hZ v1 _  r M1 h) hf cs_X5_132 hC hno (z_1 hZ 0 (by decide) rfl) (q0 := (RX5, TX5, 7)) rfl rfl [.int v1] rfl rfl rfl (by decide) (by decide) (Nat.le_of_ble_eq_true rfl) (by decide) (by decide) dX5_requireCell_2 (fun x1 M2 hf => ?_)
  refine r_aload_n hC dX5_requireCell_5 0 rfl ?_
  refine r_iload_n hC dX5_requireCell_6 2 rfl ?_
  refine r_tcallVV [] (fun r M1 h => c_X5_requireBeat (cx_st hC) hz hZ v2 _  r M1 h) (fun r M1 h => k_X5_requireBeat (cx_st hC) hz hZ v2 _  r M1 h) hf cs_X5_157 hC hno (z_1 hZ 0 (by decide) rfl) (q0 := (RX5, TX5, 7)) rfl rfl [.int v2] rfl rfl rfl (by decide) (by decide) (Nat.le_of_ble_eq_true rfl) (by decide) (by decide) dX5_requireCell_7 (fun x3 M4 hf => ?_)
  exact r_vretT hf hC (by decide) (by decide) dX5_requireCell_10
set_option maxRecDepth 20000 in
theorem c_X5_requireCell {l : Launch} (hl : l.stackTraces = false) {G : GG} {Z : ZZ} (hz : ZOk G Z) (hZ : ZM Z) (v1 : Int32) (v2 : Int32) (M : Mem)  (r : Except Nat Unit) (M' : Mem) (hf : f_X5_requireCell v1 v2 M = some (r, M')) : CTw (QcTV G Z r M') (XcT G Z r M') l G Z yX5_requireCell cX5_requireCell 3 none 7 1 6 [.ref (Z.1 0), .int v1, .int v2] M :=
  CTw.of [(0, .ref (Z.1 0)), (1, .int v1), (2, .int v2)] hl (by decide +kernel) (Nat.le_of_ble_eq_true rfl) rfl (fun _ hC hno => w_X5_requireCell hC hz hZ hno v1 v2 M  hf)
set_option maxRecDepth 20000 in
theorem wk_X5_requireCell {X : XX} {G : GG} {Z : ZZ} (hC : Cx X G RX5 cX5_requireCell none 7 0 0 3) (hz : ZOk G Z) (hZ : ZM Z) (v1 : Int32) (v2 : Int32) (M : Mem)  {r : Unit} {M' : Mem} (hf : f_X5_requireCell v1 v2 M = some (.ok r, M')) : V X G Z M 0 0 (QN X G (QcV G Z r M') 0 0) 0 [(0, .ref (Z.1 0)), (1, .int v1), (2, .int v2)] [] := by
  unfold f_X5_requireCell at hf
  refine r_aload_n hC dX5_requireCell_0 0 rfl ?_
  refine r_iload_n hC dX5_requireCell_1 1 rfl ?_
  refine r_kcallVV [] (fun r M1 h => k_X5_requireStaff (cx_st hC) hz hZ v1 _  r M1 h) hf cs_X5_132 hC (z_1 hZ 0 (by decide) rfl) (q0 := (RX5, TX5, 7)) rfl rfl [.int v1] rfl rfl rfl (by decide) (by decide) (Nat.le_of_ble_eq_true rfl) (by decide) (by decide) dX5_requireCell_2 (fun x1 M2 hf => ?_)
  refine r_aload_n hC dX5_requireCell_5 0 rfl ?_
  refine r_iload_n hC dX5_requireCell_6 2 rfl ?_
  refine r_kcallVV [] (fun r M1 h => k_X5_requireBeat (cx_st hC) hz hZ v2 _  r M1 h) hf cs_X5_157 hC (z_1 hZ 0 (by decide) rfl) (q0 := (RX5, TX5, 7)) rfl rfl [.int v2] rfl rfl rfl (by decide) (by decide) (Nat.le_of_ble_eq_true rfl) (by decide) (by decide) dX5_requireCell_7 (fun x3 M4 hf => ?_)
  exact r_vret (by cases hf; rfl) hC (by decide) (by decide) dX5_requireCell_10
set_option maxRecDepth 20000 in
theorem k_X5_requireCell {l : Launch} (hl : l.stackTraces = false) {G : GG} {Z : ZZ} (hz : ZOk G Z) (hZ : ZM Z) (v1 : Int32) (v2 : Int32) (M : Mem)  (r : Unit) (M' : Mem) (hf : f_X5_requireCell v1 v2 M = some (.ok r, M')) : CN (QcV G Z r M') l G Z yX5_requireCell cX5_requireCell 3 none 7 [.ref (Z.1 0), .int v1, .int v2] M :=
  CN.of [(0, .ref (Z.1 0)), (1, .int v1), (2, .int v2)] hl (by decide +kernel) (Nat.le_of_ble_eq_true rfl) rfl (fun _ hC => wk_X5_requireCell hC hz hZ v1 v2 M hf)
set_option maxRecDepth 20000 in
theorem w_X5_cell {X : XX} {G : GG} {Z : ZZ} (hC : Cx X G RX5 cX5_cell (some .int) 8 1 6 4) (hz : ZOk G Z) (hZ : ZM Z) (hno : ∀ x ∈ (xc X).exceptionTable.toList, False) (v1 : Int32) (v2 : Int32) (v3 : Int32) (M : Mem)  {r : Except Nat Int32} {M' : Mem} (hf : f_X5_cell v1 v2 v3 M = some (r, M')) : V X G Z M 0 0 (QT X G (QcTI G Z r M') (XcT G Z r M') 1 6) 0 [(0, .ref (Z.1 0)), (1, .int v1), (2, .int v2), (3, .int v3)] [] := by
  unfold f_X5_cell at hf
  refine r_aload_n hC dX5_cell_0 0 rfl ?_
  refine r_iload_n hC dX5_cell_1 1 rfl ?_
  refine r_iload_n hC dX5_cell_2 2 rfl ?_
  refine r_tcallVV [] (fun r M1 h => c_X5_requireCell (cx_st hC) hz hZ v1 v2 _  r M1 h) (fun r M1 h => k_X5_requireCell (cx_st hC) hz hZ v1 v2 _  r M1 h) hf cs_X5_97 hC hno (z_1 hZ 0 (by decide) rfl) (q0 := (RX5, TX5, 7)) rfl rfl [.int v1, .int v2] rfl rfl rfl (by decide) (by decide) (Nat.le_of_ble_eq_true rfl) (by decide) (by decide) dX5_cell_3 (fun x1 M2 hf => ?_)
  refine r_iload_n hC dX5_cell_6 3 rfl ?_
  refine r_if_eq 22 hC dX5_cell_7 (by decide) (fun h => ?_) (fun h => ?_)
  · have hf := if_T hf h
    refine r_aload_n hC dX5_cell_22 0 rfl ?_
    refine gf_X5_19 hC (z_1 hZ 0 (by decide) rfl) rfl dX5_cell_23 ?_
    refine r_iload_n hC dX5_cell_26 1 rfl ?_
    refine r_iload_n hC dX5_cell_27 2 rfl ?_
    refine r_callVI [] (fun r M1 h => c_X3_written (cx_st hC) hz hZ 0 v1 v2 _ (by decide) r M1 h) hf cs_X5_105 hC (z_S hZ (by decide)) (q0 := (RX3, TX3, 4)) rfl rfl [.int v1, .int v2] rfl rfl rfl (by decide) (by decide) (Nat.le_of_ble_eq_true rfl) (by decide) (by decide) dX5_cell_28 (fun x3 M4 hf => ?_)
    exact r_iretT hf hC (by decide) (by decide) dX5_cell_31
  · have hf := if_F hf h
    refine r_aload_n hC dX5_cell_10 0 rfl ?_
    refine gf_X5_19 hC (z_1 hZ 0 (by decide) rfl) rfl dX5_cell_11 ?_
    refine r_iload_n hC dX5_cell_14 1 rfl ?_
    refine r_iload_n hC dX5_cell_15 2 rfl ?_
    refine r_callVI [] (fun r M1 h => c_X3_sounding (cx_st hC) hz hZ 0 v1 v2 _ (by decide) r M1 h) hf cs_X5_101 hC (z_S hZ (by decide)) (q0 := (RX3, TX3, 4)) rfl rfl [.int v1, .int v2] rfl rfl rfl (by decide) (by decide) (Nat.le_of_ble_eq_true rfl) (by decide) (by decide) dX5_cell_16 (fun x5 M6 hf => ?_)
    refine r_goto 31 hC dX5_cell_19 (by decide) ?_
    exact r_iretT hf hC (by decide) (by decide) dX5_cell_31
set_option maxRecDepth 20000 in
theorem c_X5_cell {l : Launch} (hl : l.stackTraces = false) {G : GG} {Z : ZZ} (hz : ZOk G Z) (hZ : ZM Z) (v1 : Int32) (v2 : Int32) (v3 : Int32) (M : Mem)  (r : Except Nat Int32) (M' : Mem) (hf : f_X5_cell v1 v2 v3 M = some (r, M')) : CTw (QcTI G Z r M') (XcT G Z r M') l G Z yX5_cell cX5_cell 4 (some .int) 8 1 6 [.ref (Z.1 0), .int v1, .int v2, .int v3] M :=
  CTw.of [(0, .ref (Z.1 0)), (1, .int v1), (2, .int v2), (3, .int v3)] hl (by decide +kernel) (Nat.le_of_ble_eq_true rfl) rfl (fun _ hC hno => w_X5_cell hC hz hZ hno v1 v2 v3 M  hf)
set_option maxRecDepth 20000 in
theorem w_X5_set {X : XX} {G : GG} {Z : ZZ} (hC : Cx X G RX5 cX5_set (some .int) 6 1 6 4) (hz : ZOk G Z) (hZ : ZM Z) (hno : ∀ x ∈ (xc X).exceptionTable.toList, False) (v1 : Int32) (v2 : Int32) (M : Mem)  {r : Except Nat Int32} {M' : Mem} (hf : f_X5_set v1 v2 M = some (r, M')) : V X G Z M 0 0 (QT X G (QcTI G Z r M') (XcT G Z r M') 1 6) 0 [(0, .ref (Z.1 0)), (1, .int v1), (2, .int v2)] [] := by
  unfold f_X5_set at hf
  refine r_iload_n hC dX5_set_0 1 rfl ?_
  refine r_iload_n hC dX5_set_1 2 rfl ?_
  refine r_callSI [] (fun r M1 h => c_X3_allowsSetting (cx_st hC) hz hZ v1 v2 _  r M1 h) hf cs_X5_108 hC  rfl rfl (by decide) (by decide) (Nat.le_of_ble_eq_true rfl) (by decide) (by decide) dX5_set_2 (fun x1 M2 hf => ?_)
  refine r_if_ne 16 hC dX5_set_5 (by decide) (fun h => ?_) (fun h => ?_)
  · have hf := if_F hf h
    refine r_aload_n hC dX5_set_16 0 rfl ?_
    refine gf_X5_36 hC (z_1 hZ 0 (by decide) rfl) rfl dX5_set_17 ?_
    refine r_aload_n hC dX5_set_20 0 rfl ?_
    refine gf_X5_19 hC (z_1 hZ 0 (by decide) rfl) rfl dX5_set_21 ?_
    refine r_callVV [] (fun r M1 h => c_X1_remember (cx_st hC) hz hZ 0 _ (by decide) r M1 h) hf cs_X5_112 hC (z_1 hZ 3 (by decide) rfl) (q0 := (RX1, TX1, 3)) rfl rfl [.ref (Z.1 (iSt 0))] rfl rfl rfl (by decide) (by decide) (Nat.le_of_ble_eq_true rfl) (by decide) (by decide) dX5_set_24 (fun x3 M4 hf => ?_)
    refine r_aload_n hC dX5_set_27 0 rfl ?_
    refine gf_X5_19 hC (z_1 hZ 0 (by decide) rfl) rfl dX5_set_28 ?_
    refine r_iload_n hC dX5_set_31 1 rfl ?_
    refine r_callVI [] (fun r M1 h => c_X3_settingAt (cx_st hC) hz hZ 0 v1 _ (by decide) r M1 h) hf cs_X5_84 hC (z_S hZ (by decide)) (q0 := (RX3, TX3, 4)) rfl rfl [.int v1] rfl rfl rfl (by decide) (by decide) (Nat.le_of_ble_eq_true rfl) (by decide) (by decide) dX5_set_32 (fun x5 M6 hf => ?_)
    refine r_istore_n (L' := [(3, .int x5), (0, .ref (Z.1 0)), (1, .int v1), (2, .int v2)]) hC dX5_set_35 (by decide) rfl ?_
    refine r_aload_n hC dX5_set_36 1 rfl ?_
    refine gf_X5_19 hC (z_1 hZ 0 (by decide) rfl) rfl dX5_set_37 ?_
    refine r_iload_n hC dX5_set_40 2 rfl ?_
    refine r_iload_n hC dX5_set_41 3 rfl ?_
    refine r_callVV [] (fun r M1 h => c_X3_changeSetting (cx_st hC) hz hZ 0 v1 v2 _ (by decide) r M1 h) hf cs_X5_115 hC (z_S hZ (by decide)) (q0 := (RX3, TX3, 4)) rfl rfl [.int v1, .int v2] rfl rfl rfl (by decide) (by decide) (Nat.le_of_ble_eq_true rfl) (by decide) (by decide) dX5_set_42 (fun x7 M8 hf => ?_)
    refine r_iload_n hC dX5_set_45 0 rfl ?_
    exact r_iretT hf hC (by decide) (by decide) dX5_set_46
  · have hf := if_T hf h
    exact r_throw hf hC hno th_iae dX5_set_8 dX5_set_11 dX5_set_12 dX5_set_15 (by decide) (by decide) (by decide) (by decide)
set_option maxRecDepth 20000 in
theorem c_X5_set {l : Launch} (hl : l.stackTraces = false) {G : GG} {Z : ZZ} (hz : ZOk G Z) (hZ : ZM Z) (v1 : Int32) (v2 : Int32) (M : Mem)  (r : Except Nat Int32) (M' : Mem) (hf : f_X5_set v1 v2 M = some (r, M')) : CTw (QcTI G Z r M') (XcT G Z r M') l G Z yX5_set cX5_set 4 (some .int) 6 1 6 [.ref (Z.1 0), .int v1, .int v2] M :=
  CTw.of [(0, .ref (Z.1 0)), (1, .int v1), (2, .int v2)] hl (by decide +kernel) (Nat.le_of_ble_eq_true rfl) rfl (fun _ hC hno => w_X5_set hC hz hZ hno v1 v2 M  hf)
set_option maxRecDepth 20000 in
theorem w_X5_write_b97 {X : XX} {G : GG} {Z : ZZ} {r : Except Nat Int32} {M' : Mem} (hC : Cx X G RX5 cX5_write (some .int) 8 1 6 5) (hz : ZOk G Z) (hZ : ZM Z) (hno : ∀ x ∈ (xc X).exceptionTable.toList, False) (v4 : Int32) (s0 : Int32) (s1 : Int32) (s2 : Int32) (s3 : Nat) (hs3 : s3 < 18) (M : Mem) (hf : f_X5_write_b97 v4 s0 s1 s2 s3 M = some (r, M')) : V X G Z M 0 0 (QT X G (QcTI G Z r M') (XcT G Z r M') 1 6) 97 [(0, .ref (Z.1 0)), (4, .int v4)] [.int s0, .int s1, .int s2, .ref (Z.1 (iSt s3))] := by
  unfold f_X5_write_b97 at hf
  refine r_callVV [] (fun r M1 h => c_X3_put (cx_st hC) hz hZ s3 s2 s1 s0 _ hs3 r M1 h) hf cs_X5_125 hC (z_S hZ hs3) (q0 := (RX3, TX3, 4)) rfl rfl [.int s2, .int s1, .int s0] rfl rfl rfl (by decide) (by decide) (Nat.le_of_ble_eq_true rfl) (by decide) (by decide) dX5_write_97 (fun x11 M12 hf => ?_)
  refine r_aload_n hC dX5_write_100 0 rfl ?_
  refine gf_X5_19 hC (z_1 hZ 0 (by decide) rfl) rfl dX5_write_101 ?_
  refine r_callVV [] (fun r M1 h => c_X3_dropLooseHolds (cx_st hC) hz hZ 0 _ (by decide) r M1 h) hf cs_X5_129 hC (z_S hZ (by decide)) (q0 := (RX3, TX3, 4)) rfl rfl [] rfl rfl rfl (by decide) (by decide) (Nat.le_of_ble_eq_true rfl) (by decide) (by decide) dX5_write_104 (fun x13 M14 hf => ?_)
  refine r_iload hC dX5_write_107 1 rfl ?_
  exact r_iretT hf hC (by decide) (by decide) dX5_write_109
set_option maxRecDepth 20000 in
theorem w_X5_write_b58 {X : XX} {G : GG} {Z : ZZ} {r : Except Nat Int32} {M' : Mem} (hC : Cx X G RX5 cX5_write (some .int) 8 1 6 5) (hz : ZOk G Z) (hZ : ZM Z) (hno : ∀ x ∈ (xc X).exceptionTable.toList, False) (v1 : Int32) (v2 : Int32) (v3 : Int32) (M : Mem) (hf : f_X5_write_b58 v1 v2 v3 M = some (r, M')) : V X G Z M 0 0 (QT X G (QcTI G Z r M') (XcT G Z r M') 1 6) 58 [(0, .ref (Z.1 0)), (1, .int v1), (2, .int v2), (3, .int v3)] [] := by
  unfold f_X5_write_b58 at hf
  refine r_aload_n hC dX5_write_58 0 rfl ?_
  refine gf_X5_36 hC (z_1 hZ 0 (by decide) rfl) rfl dX5_write_59 ?_
  refine r_aload_n hC dX5_write_62 0 rfl ?_
  refine gf_X5_19 hC (z_1 hZ 0 (by decide) rfl) rfl dX5_write_63 ?_
  refine r_callVV [] (fun r M1 h => c_X1_remember (cx_st hC) hz hZ 0 _ (by decide) r M1 h) hf cs_X5_112 hC (z_1 hZ 3 (by decide) rfl) (q0 := (RX1, TX1, 3)) rfl rfl [.ref (Z.1 (iSt 0))] rfl rfl rfl (by decide) (by decide) (Nat.le_of_ble_eq_true rfl) (by decide) (by decide) dX5_write_66 (fun x7 M8 hf => ?_)
  refine r_aload_n hC dX5_write_69 0 rfl ?_
  refine gf_X5_19 hC (z_1 hZ 0 (by decide) rfl) rfl dX5_write_70 ?_
  refine r_iload_n hC dX5_write_73 1 rfl ?_
  refine r_iload_n hC dX5_write_74 2 rfl ?_
  refine r_callVI [] (fun r M1 h => c_X3_written (cx_st hC) hz hZ 0 v1 v2 _ (by decide) r M1 h) hf cs_X5_105 hC (z_S hZ (by decide)) (q0 := (RX3, TX3, 4)) rfl rfl [.int v1, .int v2] rfl rfl rfl (by decide) (by decide) (Nat.le_of_ble_eq_true rfl) (by decide) (by decide) dX5_write_75 (fun x9 M10 hf => ?_)
  refine r_istore (L' := [(4, .int x9), (0, .ref (Z.1 0)), (1, .int v1), (2, .int v2), (3, .int v3)]) hC dX5_write_78 (by decide) rfl ?_
  refine r_aload_n hC dX5_write_80 1 rfl ?_
  refine gf_X5_19 hC (z_1 hZ 0 (by decide) rfl) rfl dX5_write_81 ?_
  refine r_iload_n hC dX5_write_84 2 rfl ?_
  refine r_iload_n hC dX5_write_85 3 rfl ?_
  refine r_iload_n hC dX5_write_86 4 rfl ?_
  refine r_iconst (v := (-1)) hC dX5_write_87 rfl ?_
  refine r_icmp_ne 96 hC dX5_write_88 (by decide) (fun h => ?_) (fun h => ?_)
  · have hf := if_F hf h
    refine r_iload_n hC dX5_write_96 4 rfl ?_
    refine r_L [1, 0] rfl ?_
    exact w_X5_write_b97 hC hz hZ hno x9 v3 v2 v1 0 (by decide) _ hf
  · have hf := if_T hf h
    refine r_bipush (v := (-9)) hC dX5_write_91 rfl ?_
    refine r_goto 97 hC dX5_write_93 (by decide) ?_
    refine r_L [1, 0] rfl ?_
    exact w_X5_write_b97 hC hz hZ hno x9 (-9) v2 v1 0 (by decide) _ hf
set_option maxRecDepth 20000 in
theorem w_X5_write_b32 {X : XX} {G : GG} {Z : ZZ} {r : Except Nat Int32} {M' : Mem} (hC : Cx X G RX5 cX5_write (some .int) 8 1 6 5) (hz : ZOk G Z) (hZ : ZM Z) (hno : ∀ x ∈ (xc X).exceptionTable.toList, False) (v1 : Int32) (v2 : Int32) (v3 : Int32) (M : Mem) (hf : f_X5_write_b32 v1 v2 v3 M = some (r, M')) : V X G Z M 0 0 (QT X G (QcTI G Z r M') (XcT G Z r M') 1 6) 32 [(0, .ref (Z.1 0)), (1, .int v1), (2, .int v2), (3, .int v3)] [] := by
  unfold f_X5_write_b32 at hf
  refine r_iload_n hC dX5_write_32 3 rfl ?_
  refine r_bipush (v := 99) hC dX5_write_33 rfl ?_
  refine r_icmp_ne 58 hC dX5_write_35 (by decide) (fun h => ?_) (fun h => ?_)
  · have hf := if_F hf h
    exact w_X5_write_b58 hC hz hZ hno v1 v2 v3 _ hf
  · have hf := if_T hf h
    refine r_aload_n hC dX5_write_38 0 rfl ?_
    refine gf_X5_19 hC (z_1 hZ 0 (by decide) rfl) rfl dX5_write_39 ?_
    refine r_iload_n hC dX5_write_42 1 rfl ?_
    refine r_iload_n hC dX5_write_43 2 rfl ?_
    refine r_callVI [] (fun r M1 h => c_X3_allowsHold (cx_st hC) hz hZ 0 v1 v2 _ (by decide) r M1 h) hf cs_X5_122 hC (z_S hZ (by decide)) (q0 := (RX3, TX3, 4)) rfl rfl [.int v1, .int v2] rfl rfl rfl (by decide) (by decide) (Nat.le_of_ble_eq_true rfl) (by decide) (by decide) dX5_write_44 (fun x5 M6 hf => ?_)
    refine r_if_ne 58 hC dX5_write_47 (by decide) (fun h => ?_) (fun h => ?_)
    · have hf := if_F hf h
      exact w_X5_write_b58 hC hz hZ hno v1 v2 v3 _ hf
    · have hf := if_T hf h
      exact r_throw hf hC hno th_ise dX5_write_50 dX5_write_53 dX5_write_54 dX5_write_57 (by decide) (by decide) (by decide) (by decide)
set_option maxRecDepth 20000 in
theorem w_X5_write {X : XX} {G : GG} {Z : ZZ} (hC : Cx X G RX5 cX5_write (some .int) 8 1 6 5) (hz : ZOk G Z) (hZ : ZM Z) (hno : ∀ x ∈ (xc X).exceptionTable.toList, False) (v1 : Int32) (v2 : Int32) (v3 : Int32) (M : Mem)  {r : Except Nat Int32} {M' : Mem} (hf : f_X5_write v1 v2 v3 M = some (r, M')) : V X G Z M 0 0 (QT X G (QcTI G Z r M') (XcT G Z r M') 1 6) 0 [(0, .ref (Z.1 0)), (1, .int v1), (2, .int v2), (3, .int v3)] [] := by
  unfold f_X5_write at hf
  refine r_aload_n hC dX5_write_0 0 rfl ?_
  refine r_iload_n hC dX5_write_1 1 rfl ?_
  refine r_iload_n hC dX5_write_2 2 rfl ?_
  refine r_tcallVV [] (fun r M1 h => c_X5_requireCell (cx_st hC) hz hZ v1 v2 _  r M1 h) (fun r M1 h => k_X5_requireCell (cx_st hC) hz hZ v1 v2 _  r M1 h) hf cs_X5_97 hC hno (z_1 hZ 0 (by decide) rfl) (q0 := (RX5, TX5, 7)) rfl rfl [.int v1, .int v2] rfl rfl rfl (by decide) (by decide) (Nat.le_of_ble_eq_true rfl) (by decide) (by decide) dX5_write_3 (fun x1 M2 hf => ?_)
  refine r_iload_n hC dX5_write_6 3 rfl ?_
  refine r_iconst (v := (-1)) hC dX5_write_7 rfl ?_
  refine r_icmp_eq 32 hC dX5_write_8 (by decide) (fun h => ?_) (fun h => ?_)
  · have hf := if_T hf h
    exact w_X5_write_b32 hC hz hZ hno v1 v2 v3 _ hf
  · have hf := if_F hf h
    refine r_iload_n hC dX5_write_11 3 rfl ?_
    refine r_bipush (v := 99) hC dX5_write_12 rfl ?_
    refine r_icmp_eq 32 hC dX5_write_14 (by decide) (fun h => ?_) (fun h => ?_)
    · have hf := if_T hf h
      exact w_X5_write_b32 hC hz hZ hno v1 v2 v3 _ hf
    · have hf := if_F hf h
      refine r_iload_n hC dX5_write_17 3 rfl ?_
      refine r_callSI [] (fun r M1 h => c_X3_isPitch (cx_st hC) hz hZ v3 _  r M1 h) hf cs_X5_118 hC  rfl rfl (by decide) (by decide) (Nat.le_of_ble_eq_true rfl) (by decide) (by decide) dX5_write_18 (fun x3 M4 hf => ?_)
      refine r_if_ne 32 hC dX5_write_21 (by decide) (fun h => ?_) (fun h => ?_)
      · have hf := if_F hf h
        exact w_X5_write_b32 hC hz hZ hno v1 v2 v3 _ hf
      · have hf := if_T hf h
        exact r_throw hf hC hno th_iae dX5_write_24 dX5_write_27 dX5_write_28 dX5_write_31 (by decide) (by decide) (by decide) (by decide)
set_option maxRecDepth 20000 in
theorem c_X5_write {l : Launch} (hl : l.stackTraces = false) {G : GG} {Z : ZZ} (hz : ZOk G Z) (hZ : ZM Z) (v1 : Int32) (v2 : Int32) (v3 : Int32) (M : Mem)  (r : Except Nat Int32) (M' : Mem) (hf : f_X5_write v1 v2 v3 M = some (r, M')) : CTw (QcTI G Z r M') (XcT G Z r M') l G Z yX5_write cX5_write 5 (some .int) 8 1 6 [.ref (Z.1 0), .int v1, .int v2, .int v3] M :=
  CTw.of [(0, .ref (Z.1 0)), (1, .int v1), (2, .int v2), (3, .int v3)] hl (by decide +kernel) (Nat.le_of_ble_eq_true rfl) rfl (fun _ hC hno => w_X5_write hC hz hZ hno v1 v2 v3 M  hf)
set_option maxRecDepth 20000 in
theorem w_X5_transpose {X : XX} {G : GG} {Z : ZZ} (hC : Cx X G RX5 cX5_transpose (some .int) 7 1 6 3) (hz : ZOk G Z) (hZ : ZM Z) (hno : ∀ x ∈ (xc X).exceptionTable.toList, False) (v1 : Int32) (v2 : Int32) (M : Mem)  {r : Except Nat Int32} {M' : Mem} (hf : f_X5_transpose v1 v2 M = some (r, M')) : V X G Z M 0 0 (QT X G (QcTI G Z r M') (XcT G Z r M') 1 6) 0 [(0, .ref (Z.1 0)), (1, .int v1), (2, .int v2)] [] := by
  unfold f_X5_transpose at hf
  refine r_aload_n hC dX5_transpose_0 0 rfl ?_
  refine r_iload_n hC dX5_transpose_1 1 rfl ?_
  refine r_tcallVV [] (fun r M1 h => c_X5_requireStaff (cx_st hC) hz hZ v1 _  r M1 h) (fun r M1 h => k_X5_requireStaff (cx_st hC) hz hZ v1 _  r M1 h) hf cs_X5_132 hC hno (z_1 hZ 0 (by decide) rfl) (q0 := (RX5, TX5, 7)) rfl rfl [.int v1] rfl rfl rfl (by decide) (by decide) (Nat.le_of_ble_eq_true rfl) (by decide) (by decide) dX5_transpose_2 (fun x1 M2 hf => ?_)
  refine r_iload_n hC dX5_transpose_5 2 rfl ?_
  refine r_bipush (v := (-60)) hC dX5_transpose_6 rfl ?_
  refine r_icmp_lt 17 hC dX5_transpose_8 (by decide) (fun h => ?_) (fun h => ?_)
  · have hf := if_T hf h
    exact r_throw hf hC hno th_iae dX5_transpose_17 dX5_transpose_20 dX5_transpose_21 dX5_transpose_24 (by decide) (by decide) (by decide) (by decide)
  · have hf := if_F hf h
    refine r_iload_n hC dX5_transpose_11 2 rfl ?_
    refine r_bipush (v := 60) hC dX5_transpose_12 rfl ?_
    refine r_icmp_le 25 hC dX5_transpose_14 (by decide) (fun h => ?_) (fun h => ?_)
    · have hf := if_T hf h
      refine r_aload_n hC dX5_transpose_25 0 rfl ?_
      refine gf_X5_19 hC (z_1 hZ 0 (by decide) rfl) rfl dX5_transpose_26 ?_
      refine r_iload_n hC dX5_transpose_29 1 rfl ?_
      refine r_iload_n hC dX5_transpose_30 2 rfl ?_
      refine r_callVI [] (fun r M1 h => c_X3_allowsMoving (cx_st hC) hz hZ 0 v1 v2 _ (by decide) r M1 h) hf cs_X5_136 hC (z_S hZ (by decide)) (q0 := (RX3, TX3, 4)) rfl rfl [.int v1, .int v2] rfl rfl rfl (by decide) (by decide) (Nat.le_of_ble_eq_true rfl) (by decide) (by decide) dX5_transpose_31 (fun x3 M4 hf => ?_)
      refine r_if_ne 45 hC dX5_transpose_34 (by decide) (fun h => ?_) (fun h => ?_)
      · have hf := if_F hf h
        refine r_aload_n hC dX5_transpose_45 0 rfl ?_
        refine gf_X5_36 hC (z_1 hZ 0 (by decide) rfl) rfl dX5_transpose_46 ?_
        refine r_aload_n hC dX5_transpose_49 0 rfl ?_
        refine gf_X5_19 hC (z_1 hZ 0 (by decide) rfl) rfl dX5_transpose_50 ?_
        refine r_callVV [] (fun r M1 h => c_X1_remember (cx_st hC) hz hZ 0 _ (by decide) r M1 h) hf cs_X5_112 hC (z_1 hZ 3 (by decide) rfl) (q0 := (RX1, TX1, 3)) rfl rfl [.ref (Z.1 (iSt 0))] rfl rfl rfl (by decide) (by decide) (Nat.le_of_ble_eq_true rfl) (by decide) (by decide) dX5_transpose_53 (fun x5 M6 hf => ?_)
        refine r_aload_n hC dX5_transpose_56 0 rfl ?_
        refine gf_X5_19 hC (z_1 hZ 0 (by decide) rfl) rfl dX5_transpose_57 ?_
        refine r_iload_n hC dX5_transpose_60 1 rfl ?_
        refine r_iload_n hC dX5_transpose_61 2 rfl ?_
        refine r_callVI [] (fun r M1 h => c_X3_moveStaff (cx_st hC) hz hZ 0 v1 v2 _ (by decide) r M1 h) hf cs_X5_139 hC (z_S hZ (by decide)) (q0 := (RX3, TX3, 4)) rfl rfl [.int v1, .int v2] rfl rfl rfl (by decide) (by decide) (Nat.le_of_ble_eq_true rfl) (by decide) (by decide) dX5_transpose_62 (fun x7 M8 hf => ?_)
        exact r_iretT hf hC (by decide) (by decide) dX5_transpose_65
      · have hf := if_T hf h
        exact r_throw hf hC hno th_ise dX5_transpose_37 dX5_transpose_40 dX5_transpose_41 dX5_transpose_44 (by decide) (by decide) (by decide) (by decide)
    · have hf := if_F hf h
      exact r_throw hf hC hno th_iae dX5_transpose_17 dX5_transpose_20 dX5_transpose_21 dX5_transpose_24 (by decide) (by decide) (by decide) (by decide)
set_option maxRecDepth 20000 in
theorem c_X5_transpose {l : Launch} (hl : l.stackTraces = false) {G : GG} {Z : ZZ} (hz : ZOk G Z) (hZ : ZM Z) (v1 : Int32) (v2 : Int32) (M : Mem)  (r : Except Nat Int32) (M' : Mem) (hf : f_X5_transpose v1 v2 M = some (r, M')) : CTw (QcTI G Z r M') (XcT G Z r M') l G Z yX5_transpose cX5_transpose 3 (some .int) 7 1 6 [.ref (Z.1 0), .int v1, .int v2] M :=
  CTw.of [(0, .ref (Z.1 0)), (1, .int v1), (2, .int v2)] hl (by decide +kernel) (Nat.le_of_ble_eq_true rfl) rfl (fun _ hC hno => w_X5_transpose hC hz hZ hno v1 v2 M  hf)
set_option maxRecDepth 20000 in
theorem w_X5_exchange {X : XX} {G : GG} {Z : ZZ} (hC : Cx X G RX5 cX5_exchange (some .int) 7 1 6 3) (hz : ZOk G Z) (hZ : ZM Z) (hno : ∀ x ∈ (xc X).exceptionTable.toList, False) (v1 : Int32) (v2 : Int32) (M : Mem)  {r : Except Nat Int32} {M' : Mem} (hf : f_X5_exchange v1 v2 M = some (r, M')) : V X G Z M 0 0 (QT X G (QcTI G Z r M') (XcT G Z r M') 1 6) 0 [(0, .ref (Z.1 0)), (1, .int v1), (2, .int v2)] [] := by
  unfold f_X5_exchange at hf
  refine r_aload_n hC dX5_exchange_0 0 rfl ?_
  refine r_iload_n hC dX5_exchange_1 1 rfl ?_
  refine r_tcallVV [] (fun r M1 h => c_X5_requireStaff (cx_st hC) hz hZ v1 _  r M1 h) (fun r M1 h => k_X5_requireStaff (cx_st hC) hz hZ v1 _  r M1 h) hf cs_X5_132 hC hno (z_1 hZ 0 (by decide) rfl) (q0 := (RX5, TX5, 7)) rfl rfl [.int v1] rfl rfl rfl (by decide) (by decide) (Nat.le_of_ble_eq_true rfl) (by decide) (by decide) dX5_exchange_2 (fun x1 M2 hf => ?_)
  refine r_aload_n hC dX5_exchange_5 0 rfl ?_
  refine r_iload_n hC dX5_exchange_6 2 rfl ?_
  refine r_tcallVV [] (fun r M1 h => c_X5_requireStaff (cx_st hC) hz hZ v2 _  r M1 h) (fun r M1 h => k_X5_requireStaff (cx_st hC) hz hZ v2 _  r M1 h) hf cs_X5_132 hC hno (z_1 hZ 0 (by decide) rfl) (q0 := (RX5, TX5, 7)) rfl rfl [.int v2] rfl rfl rfl (by decide) (by decide) (Nat.le_of_ble_eq_true rfl) (by decide) (by decide) dX5_exchange_7 (fun x3 M4 hf => ?_)
  refine r_aload_n hC dX5_exchange_10 0 rfl ?_
  refine gf_X5_36 hC (z_1 hZ 0 (by decide) rfl) rfl dX5_exchange_11 ?_
  refine r_aload_n hC dX5_exchange_14 0 rfl ?_
  refine gf_X5_19 hC (z_1 hZ 0 (by decide) rfl) rfl dX5_exchange_15 ?_
  refine r_callVV [] (fun r M1 h => c_X1_remember (cx_st hC) hz hZ 0 _ (by decide) r M1 h) hf cs_X5_112 hC (z_1 hZ 3 (by decide) rfl) (q0 := (RX1, TX1, 3)) rfl rfl [.ref (Z.1 (iSt 0))] rfl rfl rfl (by decide) (by decide) (Nat.le_of_ble_eq_true rfl) (by decide) (by decide) dX5_exchange_18 (fun x5 M6 hf => ?_)
  refine r_aload_n hC dX5_exchange_21 0 rfl ?_
  refine gf_X5_19 hC (z_1 hZ 0 (by decide) rfl) rfl dX5_exchange_22 ?_
  refine r_iload_n hC dX5_exchange_25 1 rfl ?_
  refine r_iload_n hC dX5_exchange_26 2 rfl ?_
  refine r_callVI [] (fun r M1 h => c_X3_swapStaves (cx_st hC) hz hZ 0 v1 v2 _ (by decide) r M1 h) hf cs_X5_142 hC (z_S hZ (by decide)) (q0 := (RX3, TX3, 4)) rfl rfl [.int v1, .int v2] rfl rfl rfl (by decide) (by decide) (Nat.le_of_ble_eq_true rfl) (by decide) (by decide) dX5_exchange_27 (fun x7 M8 hf => ?_)
  exact r_iretT hf hC (by decide) (by decide) dX5_exchange_30
set_option maxRecDepth 20000 in
theorem c_X5_exchange {l : Launch} (hl : l.stackTraces = false) {G : GG} {Z : ZZ} (hz : ZOk G Z) (hZ : ZM Z) (v1 : Int32) (v2 : Int32) (M : Mem)  (r : Except Nat Int32) (M' : Mem) (hf : f_X5_exchange v1 v2 M = some (r, M')) : CTw (QcTI G Z r M') (XcT G Z r M') l G Z yX5_exchange cX5_exchange 3 (some .int) 7 1 6 [.ref (Z.1 0), .int v1, .int v2] M :=
  CTw.of [(0, .ref (Z.1 0)), (1, .int v1), (2, .int v2)] hl (by decide +kernel) (Nat.le_of_ble_eq_true rfl) rfl (fun _ hC hno => w_X5_exchange hC hz hZ hno v1 v2 M  hf)
set_option maxRecDepth 20000 in
theorem w_X5_staff_b37 {X : XX} {G : GG} {Z : ZZ} {r : Except Nat Int32} {M' : Mem} (hC : Cx X G RX5 cX5_staff (some .int) 6 1 6 2) (hz : ZOk G Z) (hZ : ZM Z) (hno : ∀ x ∈ (xc X).exceptionTable.toList, False) (v1 : Int32) (M : Mem) (hf : f_X5_staff_b37 v1 M = some (r, M')) : V X G Z M 0 0 (QT X G (QcTI G Z r M') (XcT G Z r M') 1 6) 37 [(0, .ref (Z.1 0)), (1, .int v1)] [] := by
  unfold f_X5_staff_b37 at hf
  refine r_aload_n hC dX5_staff_37 0 rfl ?_
  refine gf_X5_36 hC (z_1 hZ 0 (by decide) rfl) rfl dX5_staff_38 ?_
  refine r_aload_n hC dX5_staff_41 0 rfl ?_
  refine gf_X5_19 hC (z_1 hZ 0 (by decide) rfl) rfl dX5_staff_42 ?_
  refine r_callVV [] (fun r M1 h => c_X1_remember (cx_st hC) hz hZ 0 _ (by decide) r M1 h) hf cs_X5_112 hC (z_1 hZ 3 (by decide) rfl) (q0 := (RX1, TX1, 3)) rfl rfl [.ref (Z.1 (iSt 0))] rfl rfl rfl (by decide) (by decide) (Nat.le_of_ble_eq_true rfl) (by decide) (by decide) dX5_staff_45 (fun x1 M2 hf => ?_)
  refine r_iload_n hC dX5_staff_48 1 rfl ?_
  refine r_if_eq 62 hC dX5_staff_49 (by decide) (fun h => ?_) (fun h => ?_)
  · have hf := if_T hf h
    refine r_aload_n hC dX5_staff_62 0 rfl ?_
    refine gf_X5_19 hC (z_1 hZ 0 (by decide) rfl) rfl dX5_staff_63 ?_
    refine r_callVV [] (fun r M1 h => c_X3_dropStaff (cx_st hC) hz hZ 0 _ (by decide) r M1 h) hf cs_X5_148 hC (z_S hZ (by decide)) (q0 := (RX3, TX3, 4)) rfl rfl [] rfl rfl rfl (by decide) (by decide) (Nat.le_of_ble_eq_true rfl) (by decide) (by decide) dX5_staff_66 (fun x3 M4 hf => ?_)
    refine r_aload_n hC dX5_staff_69 0 rfl ?_
    refine gf_X5_19 hC (z_1 hZ 0 (by decide) rfl) rfl dX5_staff_70 ?_
    refine gf_X5_88 hC (z_S hZ (by decide)) rfl dX5_staff_73 ?_
    exact r_iretT hf hC (by decide) (by decide) dX5_staff_76
  · have hf := if_F hf h
    refine r_aload_n hC dX5_staff_52 0 rfl ?_
    refine gf_X5_19 hC (z_1 hZ 0 (by decide) rfl) rfl dX5_staff_53 ?_
    refine r_callVV [] (fun r M1 h => c_X3_addStaff (cx_st hC) hz hZ 0 _ (by decide) r M1 h) hf cs_X5_145 hC (z_S hZ (by decide)) (q0 := (RX3, TX3, 4)) rfl rfl [] rfl rfl rfl (by decide) (by decide) (Nat.le_of_ble_eq_true rfl) (by decide) (by decide) dX5_staff_56 (fun x5 M6 hf => ?_)
    refine r_goto 69 hC dX5_staff_59 (by decide) ?_
    refine r_aload_n hC dX5_staff_69 0 rfl ?_
    refine gf_X5_19 hC (z_1 hZ 0 (by decide) rfl) rfl dX5_staff_70 ?_
    refine gf_X5_88 hC (z_S hZ (by decide)) rfl dX5_staff_73 ?_
    exact r_iretT hf hC (by decide) (by decide) dX5_staff_76
set_option maxRecDepth 20000 in
theorem w_X5_staff {X : XX} {G : GG} {Z : ZZ} (hC : Cx X G RX5 cX5_staff (some .int) 6 1 6 2) (hz : ZOk G Z) (hZ : ZM Z) (hno : ∀ x ∈ (xc X).exceptionTable.toList, False) (v1 : Int32) (M : Mem)  {r : Except Nat Int32} {M' : Mem} (hf : f_X5_staff v1 M = some (r, M')) : V X G Z M 0 0 (QT X G (QcTI G Z r M') (XcT G Z r M') 1 6) 0 [(0, .ref (Z.1 0)), (1, .int v1)] [] := by
  unfold f_X5_staff at hf
  refine r_iload_n hC dX5_staff_0 1 rfl ?_
  refine r_if_eq 18 hC dX5_staff_1 (by decide) (fun h => ?_) (fun h => ?_)
  · have hf := if_T hf h
    refine r_aload_n hC dX5_staff_18 0 rfl ?_
    refine gf_X5_19 hC (z_1 hZ 0 (by decide) rfl) rfl dX5_staff_19 ?_
    refine gf_X5_88 hC (z_S hZ (by decide)) rfl dX5_staff_22 ?_
    refine r_iconst (v := 1) hC dX5_staff_25 rfl ?_
    refine r_icmp_gt 37 hC dX5_staff_26 (by decide) (fun h => ?_) (fun h => ?_)
    · have hf := if_T hf h
      exact w_X5_staff_b37 hC hz hZ hno v1 _ hf
    · have hf := if_F hf h
      exact r_throw hf hC hno th_ise dX5_staff_29 dX5_staff_32 dX5_staff_33 dX5_staff_36 (by decide) (by decide) (by decide) (by decide)
  · have hf := if_F hf h
    refine r_aload_n hC dX5_staff_4 0 rfl ?_
    refine gf_X5_19 hC (z_1 hZ 0 (by decide) rfl) rfl dX5_staff_5 ?_
    refine gf_X5_88 hC (z_S hZ (by decide)) rfl dX5_staff_8 ?_
    refine r_iconst (v := 4) hC dX5_staff_11 rfl ?_
    refine r_icmp_lt 37 hC dX5_staff_12 (by decide) (fun h => ?_) (fun h => ?_)
    · have hf := if_T hf h
      exact w_X5_staff_b37 hC hz hZ hno v1 _ hf
    · have hf := if_F hf h
      refine r_goto 29 hC dX5_staff_15 (by decide) ?_
      exact r_throw hf hC hno th_ise dX5_staff_29 dX5_staff_32 dX5_staff_33 dX5_staff_36 (by decide) (by decide) (by decide) (by decide)
set_option maxRecDepth 20000 in
theorem c_X5_staff {l : Launch} (hl : l.stackTraces = false) {G : GG} {Z : ZZ} (hz : ZOk G Z) (hZ : ZM Z) (v1 : Int32) (M : Mem)  (r : Except Nat Int32) (M' : Mem) (hf : f_X5_staff v1 M = some (r, M')) : CTw (QcTI G Z r M') (XcT G Z r M') l G Z yX5_staff cX5_staff 2 (some .int) 6 1 6 [.ref (Z.1 0), .int v1] M :=
  CTw.of [(0, .ref (Z.1 0)), (1, .int v1)] hl (by decide +kernel) (Nat.le_of_ble_eq_true rfl) rfl (fun _ hC hno => w_X5_staff hC hz hZ hno v1 M  hf)
set_option maxRecDepth 20000 in
theorem w_X5_insertBeat {X : XX} {G : GG} {Z : ZZ} (hC : Cx X G RX5 cX5_insertBeat (some .int) 6 1 6 2) (hz : ZOk G Z) (hZ : ZM Z) (hno : ∀ x ∈ (xc X).exceptionTable.toList, False) (v1 : Int32) (M : Mem)  {r : Except Nat Int32} {M' : Mem} (hf : f_X5_insertBeat v1 M = some (r, M')) : V X G Z M 0 0 (QT X G (QcTI G Z r M') (XcT G Z r M') 1 6) 0 [(0, .ref (Z.1 0)), (1, .int v1)] [] := by
  unfold f_X5_insertBeat at hf
  refine r_iload_n hC dX5_insertBeat_0 1 rfl ?_
  refine r_if_lt 15 hC dX5_insertBeat_1 (by decide) (fun h => ?_) (fun h => ?_)
  · have hf := if_T hf h
    exact r_throw hf hC hno th_iob dX5_insertBeat_15 dX5_insertBeat_18 dX5_insertBeat_19 dX5_insertBeat_22 (by decide) (by decide) (by decide) (by decide)
  · have hf := if_F hf h
    refine r_iload_n hC dX5_insertBeat_4 1 rfl ?_
    refine r_aload_n hC dX5_insertBeat_5 0 rfl ?_
    refine gf_X5_19 hC (z_1 hZ 0 (by decide) rfl) rfl dX5_insertBeat_6 ?_
    refine gf_X5_80 hC (z_S hZ (by decide)) rfl dX5_insertBeat_9 ?_
    refine r_icmp_le 23 hC dX5_insertBeat_12 (by decide) (fun h => ?_) (fun h => ?_)
    · have hf := if_T hf h
      refine r_aload_n hC dX5_insertBeat_23 0 rfl ?_
      refine gf_X5_19 hC (z_1 hZ 0 (by decide) rfl) rfl dX5_insertBeat_24 ?_
      refine gf_X5_80 hC (z_S hZ (by decide)) rfl dX5_insertBeat_27 ?_
      refine r_bipush (v := 16) hC dX5_insertBeat_30 rfl ?_
      refine r_icmp_lt 43 hC dX5_insertBeat_32 (by decide) (fun h => ?_) (fun h => ?_)
      · have hf := if_T hf h
        refine r_aload_n hC dX5_insertBeat_43 0 rfl ?_
        refine gf_X5_36 hC (z_1 hZ 0 (by decide) rfl) rfl dX5_insertBeat_44 ?_
        refine r_aload_n hC dX5_insertBeat_47 0 rfl ?_
        refine gf_X5_19 hC (z_1 hZ 0 (by decide) rfl) rfl dX5_insertBeat_48 ?_
        refine r_callVV [] (fun r M1 h => c_X1_remember (cx_st hC) hz hZ 0 _ (by decide) r M1 h) hf cs_X5_112 hC (z_1 hZ 3 (by decide) rfl) (q0 := (RX1, TX1, 3)) rfl rfl [.ref (Z.1 (iSt 0))] rfl rfl rfl (by decide) (by decide) (Nat.le_of_ble_eq_true rfl) (by decide) (by decide) dX5_insertBeat_51 (fun x1 M2 hf => ?_)
        refine r_aload_n hC dX5_insertBeat_54 0 rfl ?_
        refine gf_X5_19 hC (z_1 hZ 0 (by decide) rfl) rfl dX5_insertBeat_55 ?_
        refine r_iload_n hC dX5_insertBeat_58 1 rfl ?_
        refine r_callVV [] (fun r M1 h => c_X3_openBeat (cx_st hC) hz hZ 0 v1 _ (by decide) r M1 h) hf cs_X5_154 hC (z_S hZ (by decide)) (q0 := (RX3, TX3, 4)) rfl rfl [.int v1] rfl rfl rfl (by decide) (by decide) (Nat.le_of_ble_eq_true rfl) (by decide) (by decide) dX5_insertBeat_59 (fun x3 M4 hf => ?_)
        refine r_aload_n hC dX5_insertBeat_62 0 rfl ?_
        refine gf_X5_19 hC (z_1 hZ 0 (by decide) rfl) rfl dX5_insertBeat_63 ?_
        refine r_callVV [] (fun r M1 h => c_X3_dropLooseHolds (cx_st hC) hz hZ 0 _ (by decide) r M1 h) hf cs_X5_129 hC (z_S hZ (by decide)) (q0 := (RX3, TX3, 4)) rfl rfl [] rfl rfl rfl (by decide) (by decide) (Nat.le_of_ble_eq_true rfl) (by decide) (by decide) dX5_insertBeat_66 (fun x5 M6 hf => ?_)
        refine r_aload_n hC dX5_insertBeat_69 0 rfl ?_
        refine gf_X5_19 hC (z_1 hZ 0 (by decide) rfl) rfl dX5_insertBeat_70 ?_
        refine gf_X5_80 hC (z_S hZ (by decide)) rfl dX5_insertBeat_73 ?_
        exact r_iretT hf hC (by decide) (by decide) dX5_insertBeat_76
      · have hf := if_F hf h
        exact r_throw hf hC hno th_ise dX5_insertBeat_35 dX5_insertBeat_38 dX5_insertBeat_39 dX5_insertBeat_42 (by decide) (by decide) (by decide) (by decide)
    · have hf := if_F hf h
      exact r_throw hf hC hno th_iob dX5_insertBeat_15 dX5_insertBeat_18 dX5_insertBeat_19 dX5_insertBeat_22 (by decide) (by decide) (by decide) (by decide)
set_option maxRecDepth 20000 in
theorem c_X5_insertBeat {l : Launch} (hl : l.stackTraces = false) {G : GG} {Z : ZZ} (hz : ZOk G Z) (hZ : ZM Z) (v1 : Int32) (M : Mem)  (r : Except Nat Int32) (M' : Mem) (hf : f_X5_insertBeat v1 M = some (r, M')) : CTw (QcTI G Z r M') (XcT G Z r M') l G Z yX5_insertBeat cX5_insertBeat 2 (some .int) 6 1 6 [.ref (Z.1 0), .int v1] M :=
  CTw.of [(0, .ref (Z.1 0)), (1, .int v1)] hl (by decide +kernel) (Nat.le_of_ble_eq_true rfl) rfl (fun _ hC hno => w_X5_insertBeat hC hz hZ hno v1 M  hf)
set_option maxRecDepth 20000 in
theorem w_X5_removeBeat {X : XX} {G : GG} {Z : ZZ} (hC : Cx X G RX5 cX5_removeBeat (some .int) 7 1 6 2) (hz : ZOk G Z) (hZ : ZM Z) (hno : ∀ x ∈ (xc X).exceptionTable.toList, False) (v1 : Int32) (M : Mem)  {r : Except Nat Int32} {M' : Mem} (hf : f_X5_removeBeat v1 M = some (r, M')) : V X G Z M 0 0 (QT X G (QcTI G Z r M') (XcT G Z r M') 1 6) 0 [(0, .ref (Z.1 0)), (1, .int v1)] [] := by
  unfold f_X5_removeBeat at hf
  refine r_aload_n hC dX5_removeBeat_0 0 rfl ?_
  refine r_iload_n hC dX5_removeBeat_1 1 rfl ?_
  refine r_tcallVV [] (fun r M1 h => c_X5_requireBeat (cx_st hC) hz hZ v1 _  r M1 h) (fun r M1 h => k_X5_requireBeat (cx_st hC) hz hZ v1 _  r M1 h) hf cs_X5_157 hC hno (z_1 hZ 0 (by decide) rfl) (q0 := (RX5, TX5, 7)) rfl rfl [.int v1] rfl rfl rfl (by decide) (by decide) (Nat.le_of_ble_eq_true rfl) (by decide) (by decide) dX5_removeBeat_2 (fun x1 M2 hf => ?_)
  refine r_aload_n hC dX5_removeBeat_5 0 rfl ?_
  refine gf_X5_19 hC (z_1 hZ 0 (by decide) rfl) rfl dX5_removeBeat_6 ?_
  refine gf_X5_80 hC (z_S hZ (by decide)) rfl dX5_removeBeat_9 ?_
  refine r_iconst (v := 1) hC dX5_removeBeat_12 rfl ?_
  refine r_icmp_gt 24 hC dX5_removeBeat_13 (by decide) (fun h => ?_) (fun h => ?_)
  · have hf := if_T hf h
    refine r_aload_n hC dX5_removeBeat_24 0 rfl ?_
    refine gf_X5_36 hC (z_1 hZ 0 (by decide) rfl) rfl dX5_removeBeat_25 ?_
    refine r_aload_n hC dX5_removeBeat_28 0 rfl ?_
    refine gf_X5_19 hC (z_1 hZ 0 (by decide) rfl) rfl dX5_removeBeat_29 ?_
    refine r_callVV [] (fun r M1 h => c_X1_remember (cx_st hC) hz hZ 0 _ (by decide) r M1 h) hf cs_X5_112 hC (z_1 hZ 3 (by decide) rfl) (q0 := (RX1, TX1, 3)) rfl rfl [.ref (Z.1 (iSt 0))] rfl rfl rfl (by decide) (by decide) (Nat.le_of_ble_eq_true rfl) (by decide) (by decide) dX5_removeBeat_32 (fun x3 M4 hf => ?_)
    refine r_aload_n hC dX5_removeBeat_35 0 rfl ?_
    refine gf_X5_19 hC (z_1 hZ 0 (by decide) rfl) rfl dX5_removeBeat_36 ?_
    refine r_iload_n hC dX5_removeBeat_39 1 rfl ?_
    refine r_callVV [] (fun r M1 h => c_X3_closeBeat (cx_st hC) hz hZ 0 v1 _ (by decide) r M1 h) hf cs_X5_160 hC (z_S hZ (by decide)) (q0 := (RX3, TX3, 4)) rfl rfl [.int v1] rfl rfl rfl (by decide) (by decide) (Nat.le_of_ble_eq_true rfl) (by decide) (by decide) dX5_removeBeat_40 (fun x5 M6 hf => ?_)
    refine r_aload_n hC dX5_removeBeat_43 0 rfl ?_
    refine gf_X5_19 hC (z_1 hZ 0 (by decide) rfl) rfl dX5_removeBeat_44 ?_
    refine r_callVV [] (fun r M1 h => c_X3_dropLooseHolds (cx_st hC) hz hZ 0 _ (by decide) r M1 h) hf cs_X5_129 hC (z_S hZ (by decide)) (q0 := (RX3, TX3, 4)) rfl rfl [] rfl rfl rfl (by decide) (by decide) (Nat.le_of_ble_eq_true rfl) (by decide) (by decide) dX5_removeBeat_47 (fun x7 M8 hf => ?_)
    refine r_aload_n hC dX5_removeBeat_50 0 rfl ?_
    refine gf_X5_19 hC (z_1 hZ 0 (by decide) rfl) rfl dX5_removeBeat_51 ?_
    refine gf_X5_80 hC (z_S hZ (by decide)) rfl dX5_removeBeat_54 ?_
    exact r_iretT hf hC (by decide) (by decide) dX5_removeBeat_57
  · have hf := if_F hf h
    exact r_throw hf hC hno th_ise dX5_removeBeat_16 dX5_removeBeat_19 dX5_removeBeat_20 dX5_removeBeat_23 (by decide) (by decide) (by decide) (by decide)
set_option maxRecDepth 20000 in
theorem c_X5_removeBeat {l : Launch} (hl : l.stackTraces = false) {G : GG} {Z : ZZ} (hz : ZOk G Z) (hZ : ZM Z) (v1 : Int32) (M : Mem)  (r : Except Nat Int32) (M' : Mem) (hf : f_X5_removeBeat v1 M = some (r, M')) : CTw (QcTI G Z r M') (XcT G Z r M') l G Z yX5_removeBeat cX5_removeBeat 2 (some .int) 7 1 6 [.ref (Z.1 0), .int v1] M :=
  CTw.of [(0, .ref (Z.1 0)), (1, .int v1)] hl (by decide +kernel) (Nat.le_of_ble_eq_true rfl) rfl (fun _ hC hno => w_X5_removeBeat hC hz hZ hno v1 M  hf)
set_option maxRecDepth 20000 in
theorem w_X5_undo {X : XX} {G : GG} {Z : ZZ} (hC : Cx X G RX5 cX5_undo (some .int) 6 1 6 1) (hz : ZOk G Z) (hZ : ZM Z) (hno : ∀ x ∈ (xc X).exceptionTable.toList, False)  (M : Mem)  {r : Except Nat Int32} {M' : Mem} (hf : f_X5_undo  M = some (r, M')) : V X G Z M 0 0 (QT X G (QcTI G Z r M') (XcT G Z r M') 1 6) 0 [(0, .ref (Z.1 0))] [] := by
  unfold f_X5_undo at hf
  refine r_aload_n hC dX5_undo_0 0 rfl ?_
  refine gf_X5_36 hC (z_1 hZ 0 (by decide) rfl) rfl dX5_undo_1 ?_
  refine r_callVI [] (fun r M1 h => c_X1_isEmpty (cx_st hC) hz hZ  _  r M1 h) hf cs_X5_163 hC (z_1 hZ 3 (by decide) rfl) (q0 := (RX1, TX1, 3)) rfl rfl [] rfl rfl rfl (by decide) (by decide) (Nat.le_of_ble_eq_true rfl) (by decide) (by decide) dX5_undo_4 (fun x1 M2 hf => ?_)
  refine r_if_eq 18 hC dX5_undo_7 (by decide) (fun h => ?_) (fun h => ?_)
  · have hf := if_T hf h
    refine r_aload_n hC dX5_undo_18 0 rfl ?_
    refine gf_X5_36 hC (z_1 hZ 0 (by decide) rfl) rfl dX5_undo_19 ?_
    refine r_aload_n hC dX5_undo_22 0 rfl ?_
    refine gf_X5_19 hC (z_1 hZ 0 (by decide) rfl) rfl dX5_undo_23 ?_
    refine r_callVI [] (fun r M1 h => c_X1_takeBack (cx_st hC) hz hZ 0 _ (by decide) r M1 h) hf cs_X5_166 hC (z_1 hZ 3 (by decide) rfl) (q0 := (RX1, TX1, 3)) rfl rfl [.ref (Z.1 (iSt 0))] rfl rfl rfl (by decide) (by decide) (Nat.le_of_ble_eq_true rfl) (by decide) (by decide) dX5_undo_26 (fun x3 M4 hf => ?_)
    exact r_iretT hf hC (by decide) (by decide) dX5_undo_29
  · have hf := if_F hf h
    exact r_throw hf hC hno th_ise dX5_undo_10 dX5_undo_13 dX5_undo_14 dX5_undo_17 (by decide) (by decide) (by decide) (by decide)
set_option maxRecDepth 20000 in
theorem c_X5_undo {l : Launch} (hl : l.stackTraces = false) {G : GG} {Z : ZZ} (hz : ZOk G Z) (hZ : ZM Z)  (M : Mem)  (r : Except Nat Int32) (M' : Mem) (hf : f_X5_undo  M = some (r, M')) : CTw (QcTI G Z r M') (XcT G Z r M') l G Z yX5_undo cX5_undo 1 (some .int) 6 1 6 [.ref (Z.1 0)] M :=
  CTw.of [(0, .ref (Z.1 0))] hl (by decide +kernel) (Nat.le_of_ble_eq_true rfl) rfl (fun _ hC hno => w_X5_undo hC hz hZ hno  M  hf)
set_option maxRecDepth 20000 in
theorem w_X5_requireUpTo {X : XX} {G : GG} {Z : ZZ} (hC : Cx X G RX5 cX5_requireUpTo none 6 1 6 2) (hz : ZOk G Z) (hZ : ZM Z) (hno : ∀ x ∈ (xc X).exceptionTable.toList, False) (v0 : Int32) (v1 : Int32) (M : Mem)  {r : Except Nat Unit} {M' : Mem} (hf : f_X5_requireUpTo v0 v1 M = some (r, M')) : V X G Z M 0 0 (QT X G (QcTV G Z r M') (XcT G Z r M') 1 6) 0 [(0, .int v0), (1, .int v1)] [] := by
  unfold f_X5_requireUpTo at hf
  refine r_iload_n hC dX5_requireUpTo_0 1 rfl ?_
  refine r_if_lt 9 hC dX5_requireUpTo_1 (by decide) (fun h => ?_) (fun h => ?_)
  · have hf := if_T hf h
    exact r_throw hf hC hno th_iae dX5_requireUpTo_9 dX5_requireUpTo_12 dX5_requireUpTo_13 dX5_requireUpTo_16 (by decide) (by decide) (by decide) (by decide)
  · have hf := if_F hf h
    refine r_iload_n hC dX5_requireUpTo_4 1 rfl ?_
    refine r_iload_n hC dX5_requireUpTo_5 0 rfl ?_
    refine r_icmp_le 17 hC dX5_requireUpTo_6 (by decide) (fun h => ?_) (fun h => ?_)
    · have hf := if_T hf h
      exact r_vretT hf hC (by decide) (by decide) dX5_requireUpTo_17
    · have hf := if_F hf h
      exact r_throw hf hC hno th_iae dX5_requireUpTo_9 dX5_requireUpTo_12 dX5_requireUpTo_13 dX5_requireUpTo_16 (by decide) (by decide) (by decide) (by decide)
set_option maxRecDepth 20000 in
theorem c_X5_requireUpTo {l : Launch} (hl : l.stackTraces = false) {G : GG} {Z : ZZ} (hz : ZOk G Z) (hZ : ZM Z) (v0 : Int32) (v1 : Int32) (M : Mem)  (r : Except Nat Unit) (M' : Mem) (hf : f_X5_requireUpTo v0 v1 M = some (r, M')) : CTw (QcTV G Z r M') (XcT G Z r M') l G Z yX5_requireUpTo cX5_requireUpTo 2 none 6 1 6 [.int v0, .int v1] M :=
  CTw.of [(0, .int v0), (1, .int v1)] hl (by decide +kernel) (Nat.le_of_ble_eq_true rfl) rfl (fun _ hC hno => w_X5_requireUpTo hC hz hZ hno v0 v1 M  hf)
set_option maxRecDepth 20000 in
theorem wk_X5_requireUpTo {X : XX} {G : GG} {Z : ZZ} (hC : Cx X G RX5 cX5_requireUpTo none 6 0 0 2) (hz : ZOk G Z) (hZ : ZM Z) (v0 : Int32) (v1 : Int32) (M : Mem)  {r : Unit} {M' : Mem} (hf : f_X5_requireUpTo v0 v1 M = some (.ok r, M')) : V X G Z M 0 0 (QN X G (QcV G Z r M') 0 0) 0 [(0, .int v0), (1, .int v1)] [] := by
  unfold f_X5_requireUpTo at hf
  refine r_iload_n hC dX5_requireUpTo_0 1 rfl ?_
  refine r_if_lt 9 hC dX5_requireUpTo_1 (by decide) (fun h => ?_) (fun h => ?_)
  · have hf := if_T hf h
    cases hf
  · have hf := if_F hf h
    refine r_iload_n hC dX5_requireUpTo_4 1 rfl ?_
    refine r_iload_n hC dX5_requireUpTo_5 0 rfl ?_
    refine r_icmp_le 17 hC dX5_requireUpTo_6 (by decide) (fun h => ?_) (fun h => ?_)
    · have hf := if_T hf h
      exact r_vret (by cases hf; rfl) hC (by decide) (by decide) dX5_requireUpTo_17
    · have hf := if_F hf h
      cases hf
set_option maxRecDepth 20000 in
theorem k_X5_requireUpTo {l : Launch} (hl : l.stackTraces = false) {G : GG} {Z : ZZ} (hz : ZOk G Z) (hZ : ZM Z) (v0 : Int32) (v1 : Int32) (M : Mem)  (r : Unit) (M' : Mem) (hf : f_X5_requireUpTo v0 v1 M = some (.ok r, M')) : CN (QcV G Z r M') l G Z yX5_requireUpTo cX5_requireUpTo 2 none 6 [.int v0, .int v1] M :=
  CN.of [(0, .int v0), (1, .int v1)] hl (by decide +kernel) (Nat.le_of_ble_eq_true rfl) rfl (fun _ hC => wk_X5_requireUpTo hC hz hZ v0 v1 M hf)
set_option maxRecDepth 20000 in
theorem w_X5_note {X : XX} {G : GG} {Z : ZZ} (hC : Cx X G RX5 cX5_note (some .int) 8 1 6 4) (hz : ZOk G Z) (hZ : ZM Z) (hno : ∀ x ∈ (xc X).exceptionTable.toList, False) (v1 : Int32) (v2 : Int32) (v3 : Int32) (M : Mem)  {r : Except Nat Int32} {M' : Mem} (hf : f_X5_note v1 v2 v3 M = some (r, M')) : V X G Z M 0 0 (QT X G (QcTI G Z r M') (XcT G Z r M') 1 6) 0 [(0, .ref (Z.1 0)), (1, .int v1), (2, .int v2), (3, .int v3)] [] := by
  unfold f_X5_note at hf
  refine r_aload_n hC dX5_note_0 0 rfl ?_
  refine r_iload_n hC dX5_note_1 1 rfl ?_
  refine r_iload_n hC dX5_note_2 2 rfl ?_
  refine r_tcallVV [] (fun r M1 h => c_X5_requireCell (cx_st hC) hz hZ v1 v2 _  r M1 h) (fun r M1 h => k_X5_requireCell (cx_st hC) hz hZ v1 v2 _  r M1 h) hf cs_X5_97 hC hno (z_1 hZ 0 (by decide) rfl) (q0 := (RX5, TX5, 7)) rfl rfl [.int v1, .int v2] rfl rfl rfl (by decide) (by decide) (Nat.le_of_ble_eq_true rfl) (by decide) (by decide) dX5_note_3 (fun x1 M2 hf => ?_)
  refine r_iconst (v := 3) hC dX5_note_6 rfl ?_
  refine r_iload_n hC dX5_note_7 3 rfl ?_
  refine r_tcallSV [] (fun r M1 h => c_X5_requireUpTo (cx_st hC) hz hZ 3 v3 _  r M1 h) (fun r M1 h => k_X5_requireUpTo (cx_st hC) hz hZ 3 v3 _  r M1 h) hf cs_X5_169 hC hno  rfl rfl (by decide) (by decide) (Nat.le_of_ble_eq_true rfl) (by decide) (by decide) dX5_note_8 (fun x3 M4 hf => ?_)
  refine r_aload_n hC dX5_note_11 0 rfl ?_
  refine gf_X5_29 hC (z_1 hZ 0 (by decide) rfl) rfl dX5_note_12 ?_
  refine r_aload_n hC dX5_note_15 0 rfl ?_
  refine gf_X5_19 hC (z_1 hZ 0 (by decide) rfl) rfl dX5_note_16 ?_
  refine r_callVV [] (fun r M1 h => c_X2_make (cx_st hC) hz hZ 0 _ (by decide) r M1 h) hf cs_X5_172 hC (z_1 hZ 7 (by decide) rfl) (q0 := (RX2, TX2, 5)) rfl rfl [.ref (Z.1 (iSt 0))] rfl rfl rfl (by decide) (by decide) (Nat.le_of_ble_eq_true rfl) (by decide) (by decide) dX5_note_19 (fun x5 M6 hf => ?_)
  refine r_aload_n hC dX5_note_22 0 rfl ?_
  refine gf_X5_29 hC (z_1 hZ 0 (by decide) rfl) rfl dX5_note_23 ?_
  refine r_iload_n hC dX5_note_26 1 rfl ?_
  refine r_iload_n hC dX5_note_27 2 rfl ?_
  refine r_iload_n hC dX5_note_28 3 rfl ?_
  refine r_callVI [] (fun r M1 h => c_X2_numberOfNote (cx_st hC) hz hZ v1 v2 v3 _  r M1 h) hf cs_X5_175 hC (z_1 hZ 7 (by decide) rfl) (q0 := (RX2, TX2, 5)) rfl rfl [.int v1, .int v2, .int v3] rfl rfl rfl (by decide) (by decide) (Nat.le_of_ble_eq_true rfl) (by decide) (by decide) dX5_note_29 (fun x7 M8 hf => ?_)
  exact r_iretT hf hC (by decide) (by decide) dX5_note_32
set_option maxRecDepth 20000 in
theorem c_X5_note {l : Launch} (hl : l.stackTraces = false) {G : GG} {Z : ZZ} (hz : ZOk G Z) (hZ : ZM Z) (v1 : Int32) (v2 : Int32) (v3 : Int32) (M : Mem)  (r : Except Nat Int32) (M' : Mem) (hf : f_X5_note v1 v2 v3 M = some (r, M')) : CTw (QcTI G Z r M') (XcT G Z r M') l G Z yX5_note cX5_note 4 (some .int) 8 1 6 [.ref (Z.1 0), .int v1, .int v2, .int v3] M :=
  CTw.of [(0, .ref (Z.1 0)), (1, .int v1), (2, .int v2), (3, .int v3)] hl (by decide +kernel) (Nat.le_of_ble_eq_true rfl) rfl (fun _ hC hno => w_X5_note hC hz hZ hno v1 v2 v3 M  hf)
set_option maxRecDepth 20000 in
theorem w_X5_hand {X : XX} {G : GG} {Z : ZZ} (hC : Cx X G RX5 cX5_hand (some .int) 7 1 6 4) (hz : ZOk G Z) (hZ : ZM Z) (hno : ∀ x ∈ (xc X).exceptionTable.toList, False) (v1 : Int32) (v2 : Int32) (v3 : Int32) (M : Mem)  {r : Except Nat Int32} {M' : Mem} (hf : f_X5_hand v1 v2 v3 M = some (r, M')) : V X G Z M 0 0 (QT X G (QcTI G Z r M') (XcT G Z r M') 1 6) 0 [(0, .ref (Z.1 0)), (1, .int v1), (2, .int v2), (3, .int v3)] [] := by
  unfold f_X5_hand at hf
  refine r_iload_n hC dX5_hand_0 1 rfl ?_
  refine r_if_lt 9 hC dX5_hand_1 (by decide) (fun h => ?_) (fun h => ?_)
  · have hf := if_T hf h
    exact r_throw hf hC hno th_iob dX5_hand_9 dX5_hand_12 dX5_hand_13 dX5_hand_16 (by decide) (by decide) (by decide) (by decide)
  · have hf := if_F hf h
    refine r_iload_n hC dX5_hand_4 1 rfl ?_
    refine r_iconst (v := 2) hC dX5_hand_5 rfl ?_
    refine r_icmp_lt 17 hC dX5_hand_6 (by decide) (fun h => ?_) (fun h => ?_)
    · have hf := if_T hf h
      refine r_aload_n hC dX5_hand_17 0 rfl ?_
      refine r_iload_n hC dX5_hand_18 2 rfl ?_
      refine r_tcallVV [] (fun r M1 h => c_X5_requireBeat (cx_st hC) hz hZ v2 _  r M1 h) (fun r M1 h => k_X5_requireBeat (cx_st hC) hz hZ v2 _  r M1 h) hf cs_X5_157 hC hno (z_1 hZ 0 (by decide) rfl) (q0 := (RX5, TX5, 7)) rfl rfl [.int v2] rfl rfl rfl (by decide) (by decide) (Nat.le_of_ble_eq_true rfl) (by decide) (by decide) dX5_hand_19 (fun x1 M2 hf => ?_)
      refine r_iconst (v := 4) hC dX5_hand_22 rfl ?_
      refine r_iload_n hC dX5_hand_23 3 rfl ?_
      refine r_tcallSV [] (fun r M1 h => c_X5_requireUpTo (cx_st hC) hz hZ 4 v3 _  r M1 h) (fun r M1 h => k_X5_requireUpTo (cx_st hC) hz hZ 4 v3 _  r M1 h) hf cs_X5_169 hC hno  rfl rfl (by decide) (by decide) (Nat.le_of_ble_eq_true rfl) (by decide) (by decide) dX5_hand_24 (fun x3 M4 hf => ?_)
      refine r_aload_n hC dX5_hand_27 0 rfl ?_
      refine gf_X5_29 hC (z_1 hZ 0 (by decide) rfl) rfl dX5_hand_28 ?_
      refine r_aload_n hC dX5_hand_31 0 rfl ?_
      refine gf_X5_19 hC (z_1 hZ 0 (by decide) rfl) rfl dX5_hand_32 ?_
      refine r_callVV [] (fun r M1 h => c_X2_make (cx_st hC) hz hZ 0 _ (by decide) r M1 h) hf cs_X5_172 hC (z_1 hZ 7 (by decide) rfl) (q0 := (RX2, TX2, 5)) rfl rfl [.ref (Z.1 (iSt 0))] rfl rfl rfl (by decide) (by decide) (Nat.le_of_ble_eq_true rfl) (by decide) (by decide) dX5_hand_35 (fun x5 M6 hf => ?_)
      refine r_aload_n hC dX5_hand_38 0 rfl ?_
      refine gf_X5_29 hC (z_1 hZ 0 (by decide) rfl) rfl dX5_hand_39 ?_
      refine r_iload_n hC dX5_hand_42 1 rfl ?_
      refine r_iload_n hC dX5_hand_43 2 rfl ?_
      refine r_iload_n hC dX5_hand_44 3 rfl ?_
      refine r_callVI [] (fun r M1 h => c_X2_numberOfHand (cx_st hC) hz hZ v1 v2 v3 _  r M1 h) hf cs_X5_179 hC (z_1 hZ 7 (by decide) rfl) (q0 := (RX2, TX2, 5)) rfl rfl [.int v1, .int v2, .int v3] rfl rfl rfl (by decide) (by decide) (Nat.le_of_ble_eq_true rfl) (by decide) (by decide) dX5_hand_45 (fun x7 M8 hf => ?_)
      exact r_iretT hf hC (by decide) (by decide) dX5_hand_48
    · have hf := if_F hf h
      exact r_throw hf hC hno th_iob dX5_hand_9 dX5_hand_12 dX5_hand_13 dX5_hand_16 (by decide) (by decide) (by decide) (by decide)
set_option maxRecDepth 20000 in
theorem c_X5_hand {l : Launch} (hl : l.stackTraces = false) {G : GG} {Z : ZZ} (hz : ZOk G Z) (hZ : ZM Z) (v1 : Int32) (v2 : Int32) (v3 : Int32) (M : Mem)  (r : Except Nat Int32) (M' : Mem) (hf : f_X5_hand v1 v2 v3 M = some (r, M')) : CTw (QcTI G Z r M') (XcT G Z r M') l G Z yX5_hand cX5_hand 4 (some .int) 7 1 6 [.ref (Z.1 0), .int v1, .int v2, .int v3] M :=
  CTw.of [(0, .ref (Z.1 0)), (1, .int v1), (2, .int v2), (3, .int v3)] hl (by decide +kernel) (Nat.le_of_ble_eq_true rfl) rfl (fun _ hC hno => w_X5_hand hC hz hZ hno v1 v2 v3 M  hf)
set_option maxRecDepth 20000 in
theorem w_X5_beat {X : XX} {G : GG} {Z : ZZ} (hC : Cx X G RX5 cX5_beat (some .int) 7 1 6 3) (hz : ZOk G Z) (hZ : ZM Z) (hno : ∀ x ∈ (xc X).exceptionTable.toList, False) (v1 : Int32) (v2 : Int32) (M : Mem)  {r : Except Nat Int32} {M' : Mem} (hf : f_X5_beat v1 v2 M = some (r, M')) : V X G Z M 0 0 (QT X G (QcTI G Z r M') (XcT G Z r M') 1 6) 0 [(0, .ref (Z.1 0)), (1, .int v1), (2, .int v2)] [] := by
  unfold f_X5_beat at hf
  refine r_aload_n hC dX5_beat_0 0 rfl ?_
  refine r_iload_n hC dX5_beat_1 1 rfl ?_
  refine r_tcallVV [] (fun r M1 h => c_X5_requireBeat (cx_st hC) hz hZ v1 _  r M1 h) (fun r M1 h => k_X5_requireBeat (cx_st hC) hz hZ v1 _  r M1 h) hf cs_X5_157 hC hno (z_1 hZ 0 (by decide) rfl) (q0 := (RX5, TX5, 7)) rfl rfl [.int v1] rfl rfl rfl (by decide) (by decide) (Nat.le_of_ble_eq_true rfl) (by decide) (by decide) dX5_beat_2 (fun x1 M2 hf => ?_)
  refine r_iconst (v := 4) hC dX5_beat_5 rfl ?_
  refine r_iload_n hC dX5_beat_6 2 rfl ?_
  refine r_tcallSV [] (fun r M1 h => c_X5_requireUpTo (cx_st hC) hz hZ 4 v2 _  r M1 h) (fun r M1 h => k_X5_requireUpTo (cx_st hC) hz hZ 4 v2 _  r M1 h) hf cs_X5_169 hC hno  rfl rfl (by decide) (by decide) (Nat.le_of_ble_eq_true rfl) (by decide) (by decide) dX5_beat_7 (fun x3 M4 hf => ?_)
  refine r_aload_n hC dX5_beat_10 0 rfl ?_
  refine gf_X5_29 hC (z_1 hZ 0 (by decide) rfl) rfl dX5_beat_11 ?_
  refine r_aload_n hC dX5_beat_14 0 rfl ?_
  refine gf_X5_19 hC (z_1 hZ 0 (by decide) rfl) rfl dX5_beat_15 ?_
  refine r_callVV [] (fun r M1 h => c_X2_make (cx_st hC) hz hZ 0 _ (by decide) r M1 h) hf cs_X5_172 hC (z_1 hZ 7 (by decide) rfl) (q0 := (RX2, TX2, 5)) rfl rfl [.ref (Z.1 (iSt 0))] rfl rfl rfl (by decide) (by decide) (Nat.le_of_ble_eq_true rfl) (by decide) (by decide) dX5_beat_18 (fun x5 M6 hf => ?_)
  refine r_aload_n hC dX5_beat_21 0 rfl ?_
  refine gf_X5_29 hC (z_1 hZ 0 (by decide) rfl) rfl dX5_beat_22 ?_
  refine r_iload_n hC dX5_beat_25 1 rfl ?_
  refine r_iload_n hC dX5_beat_26 2 rfl ?_
  refine r_callVI [] (fun r M1 h => c_X2_numberOfBeat (cx_st hC) hz hZ v1 v2 _  r M1 h) hf cs_X5_182 hC (z_1 hZ 7 (by decide) rfl) (q0 := (RX2, TX2, 5)) rfl rfl [.int v1, .int v2] rfl rfl rfl (by decide) (by decide) (Nat.le_of_ble_eq_true rfl) (by decide) (by decide) dX5_beat_27 (fun x7 M8 hf => ?_)
  exact r_iretT hf hC (by decide) (by decide) dX5_beat_30
set_option maxRecDepth 20000 in
theorem c_X5_beat {l : Launch} (hl : l.stackTraces = false) {G : GG} {Z : ZZ} (hz : ZOk G Z) (hZ : ZM Z) (v1 : Int32) (v2 : Int32) (M : Mem)  (r : Except Nat Int32) (M' : Mem) (hf : f_X5_beat v1 v2 M = some (r, M')) : CTw (QcTI G Z r M') (XcT G Z r M') l G Z yX5_beat cX5_beat 3 (some .int) 7 1 6 [.ref (Z.1 0), .int v1, .int v2] M :=
  CTw.of [(0, .ref (Z.1 0)), (1, .int v1), (2, .int v2)] hl (by decide +kernel) (Nat.le_of_ble_eq_true rfl) rfl (fun _ hC hno => w_X5_beat hC hz hZ hno v1 v2 M  hf)
set_option maxRecDepth 20000 in
theorem w_X5_whole {X : XX} {G : GG} {Z : ZZ} (hC : Cx X G RX5 cX5_whole (some .int) 7 1 6 2) (hz : ZOk G Z) (hZ : ZM Z) (hno : ∀ x ∈ (xc X).exceptionTable.toList, False) (v1 : Int32) (M : Mem)  {r : Except Nat Int32} {M' : Mem} (hf : f_X5_whole v1 M = some (r, M')) : V X G Z M 0 0 (QT X G (QcTI G Z r M') (XcT G Z r M') 1 6) 0 [(0, .ref (Z.1 0)), (1, .int v1)] [] := by
  unfold f_X5_whole at hf
  refine r_bipush (v := 7) hC dX5_whole_0 rfl ?_
  refine r_iload_n hC dX5_whole_2 1 rfl ?_
  refine r_tcallSV [] (fun r M1 h => c_X5_requireUpTo (cx_st hC) hz hZ 7 v1 _  r M1 h) (fun r M1 h => k_X5_requireUpTo (cx_st hC) hz hZ 7 v1 _  r M1 h) hf cs_X5_169 hC hno  rfl rfl (by decide) (by decide) (Nat.le_of_ble_eq_true rfl) (by decide) (by decide) dX5_whole_3 (fun x1 M2 hf => ?_)
  refine r_aload_n hC dX5_whole_6 0 rfl ?_
  refine gf_X5_29 hC (z_1 hZ 0 (by decide) rfl) rfl dX5_whole_7 ?_
  refine r_aload_n hC dX5_whole_10 0 rfl ?_
  refine gf_X5_19 hC (z_1 hZ 0 (by decide) rfl) rfl dX5_whole_11 ?_
  refine r_callVV [] (fun r M1 h => c_X2_make (cx_st hC) hz hZ 0 _ (by decide) r M1 h) hf cs_X5_172 hC (z_1 hZ 7 (by decide) rfl) (q0 := (RX2, TX2, 5)) rfl rfl [.ref (Z.1 (iSt 0))] rfl rfl rfl (by decide) (by decide) (Nat.le_of_ble_eq_true rfl) (by decide) (by decide) dX5_whole_14 (fun x3 M4 hf => ?_)
  refine r_aload_n hC dX5_whole_17 0 rfl ?_
  refine gf_X5_29 hC (z_1 hZ 0 (by decide) rfl) rfl dX5_whole_18 ?_
  refine r_iload_n hC dX5_whole_21 1 rfl ?_
  refine r_callVI [] (fun r M1 h => c_X2_numberOfWhole (cx_st hC) hz hZ v1 _  r M1 h) hf cs_X5_185 hC (z_1 hZ 7 (by decide) rfl) (q0 := (RX2, TX2, 5)) rfl rfl [.int v1] rfl rfl rfl (by decide) (by decide) (Nat.le_of_ble_eq_true rfl) (by decide) (by decide) dX5_whole_22 (fun x5 M6 hf => ?_)
  exact r_iretT hf hC (by decide) (by decide) dX5_whole_25
set_option maxRecDepth 20000 in
theorem c_X5_whole {l : Launch} (hl : l.stackTraces = false) {G : GG} {Z : ZZ} (hz : ZOk G Z) (hZ : ZM Z) (v1 : Int32) (M : Mem)  (r : Except Nat Int32) (M' : Mem) (hf : f_X5_whole v1 M = some (r, M')) : CTw (QcTI G Z r M') (XcT G Z r M') l G Z yX5_whole cX5_whole 2 (some .int) 7 1 6 [.ref (Z.1 0), .int v1] M :=
  CTw.of [(0, .ref (Z.1 0)), (1, .int v1)] hl (by decide +kernel) (Nat.le_of_ble_eq_true rfl) rfl (fun _ hC hno => w_X5_whole hC hz hZ hno v1 M  hf)
set_option maxRecDepth 20000 in
theorem w_X5_numberOfTrial {X : XX} {G : GG} {Z : ZZ} (hC : Cx X G RX5 cX5_numberOfTrial (some .int) 6 0 0 2) (hz : ZOk G Z) (hZ : ZM Z) (v1 : Int32) (M : Mem)  {r : Int32} {M' : Mem} (hf : f_X5_numberOfTrial v1 M = some (r, M')) : V X G Z M 0 0 (QN X G (QcI G Z r M') 0 0) 0 [(0, .ref (Z.1 0)), (1, .int v1)] [] := by
  unfold f_X5_numberOfTrial at hf
  refine r_aload_n hC dX5_numberOfTrial_0 0 rfl ?_
  refine gf_X5_29 hC (z_1 hZ 0 (by decide) rfl) rfl dX5_numberOfTrial_1 ?_
  refine r_aload_n hC dX5_numberOfTrial_4 0 rfl ?_
  refine gf_X5_23 hC (z_1 hZ 0 (by decide) rfl) rfl dX5_numberOfTrial_5 ?_
  refine r_callVV [] (fun r M1 h => c_X2_make (cx_st hC) hz hZ 1 _ (by decide) r M1 h) hf cs_X5_172 hC (z_1 hZ 7 (by decide) rfl) (q0 := (RX2, TX2, 5)) rfl rfl [.ref (Z.1 (iSt 1))] rfl rfl rfl (by decide) (by decide) (Nat.le_of_ble_eq_true rfl) (by decide) (by decide) dX5_numberOfTrial_8 (fun x1 M2 hf => ?_)
  refine r_aload_n hC dX5_numberOfTrial_11 0 rfl ?_
  refine gf_X5_29 hC (z_1 hZ 0 (by decide) rfl) rfl dX5_numberOfTrial_12 ?_
  refine r_iload_n hC dX5_numberOfTrial_15 1 rfl ?_
  refine r_callVI [] (fun r M1 h => c_X2_numberOfWhole (cx_st hC) hz hZ v1 _  r M1 h) hf cs_X5_185 hC (z_1 hZ 7 (by decide) rfl) (q0 := (RX2, TX2, 5)) rfl rfl [.int v1] rfl rfl rfl (by decide) (by decide) (Nat.le_of_ble_eq_true rfl) (by decide) (by decide) dX5_numberOfTrial_16 (fun x3 M4 hf => ?_)
  exact r_iret hf hC (by decide) (by decide) dX5_numberOfTrial_19
set_option maxRecDepth 20000 in
theorem c_X5_numberOfTrial {l : Launch} (hl : l.stackTraces = false) {G : GG} {Z : ZZ} (hz : ZOk G Z) (hZ : ZM Z) (v1 : Int32) (M : Mem)  (r : Int32) (M' : Mem) (hf : f_X5_numberOfTrial v1 M = some (r, M')) : CN (QcI G Z r M') l G Z yX5_numberOfTrial cX5_numberOfTrial 2 (some .int) 6 [.ref (Z.1 0), .int v1] M :=
  CN.of [(0, .ref (Z.1 0)), (1, .int v1)] hl (by decide +kernel) (Nat.le_of_ble_eq_true rfl) rfl (fun _ hC => w_X5_numberOfTrial hC hz hZ v1 M  hf)
set_option maxRecDepth 20000 in
theorem w_X5_whatIf {X : XX} {G : GG} {Z : ZZ} (hC : Cx X G RX5 cX5_whatIf (some .int) 7 1 6 4) (hz : ZOk G Z) (hZ : ZM Z) (hno : ∀ x ∈ (xc X).exceptionTable.toList, False) (v1 : Int32) (v2 : Int32) (v3 : Int32) (M : Mem)  {r : Except Nat Int32} {M' : Mem} (hf : f_X5_whatIf v1 v2 v3 M = some (r, M')) : V X G Z M 0 0 (QT X G (QcTI G Z r M') (XcT G Z r M') 1 6) 0 [(0, .ref (Z.1 0)), (1, .int v1), (2, .int v2), (3, .int v3)] [] := by
  unfold f_X5_whatIf at hf
  refine r_iload_n hC dX5_whatIf_0 1 rfl ?_
  refine r_iload_n hC dX5_whatIf_1 2 rfl ?_
  refine r_callSI [] (fun r M1 h => c_X3_allowsSetting (cx_st hC) hz hZ v1 v2 _  r M1 h) hf cs_X5_108 hC  rfl rfl (by decide) (by decide) (Nat.le_of_ble_eq_true rfl) (by decide) (by decide) dX5_whatIf_2 (fun x1 M2 hf => ?_)
  refine r_if_ne 16 hC dX5_whatIf_5 (by decide) (fun h => ?_) (fun h => ?_)
  · have hf := if_F hf h
    refine r_bipush (v := 7) hC dX5_whatIf_16 rfl ?_
    refine r_iload_n hC dX5_whatIf_18 3 rfl ?_
    refine r_tcallSV [] (fun r M1 h => c_X5_requireUpTo (cx_st hC) hz hZ 7 v3 _  r M1 h) (fun r M1 h => k_X5_requireUpTo (cx_st hC) hz hZ 7 v3 _  r M1 h) hf cs_X5_169 hC hno  rfl rfl (by decide) (by decide) (Nat.le_of_ble_eq_true rfl) (by decide) (by decide) dX5_whatIf_19 (fun x3 M4 hf => ?_)
    refine r_aload_n hC dX5_whatIf_22 0 rfl ?_
    refine gf_X5_23 hC (z_1 hZ 0 (by decide) rfl) rfl dX5_whatIf_23 ?_
    refine r_aload_n hC dX5_whatIf_26 0 rfl ?_
    refine gf_X5_19 hC (z_1 hZ 0 (by decide) rfl) rfl dX5_whatIf_27 ?_
    refine r_callVV [] (fun r M1 h => c_X3_takeFrom (cx_st hC) hz hZ 1 0 _ (by decide) (by decide) r M1 h) hf cs_X5_73 hC (z_S hZ (by decide)) (q0 := (RX3, TX3, 4)) rfl rfl [.ref (Z.1 (iSt 0))] rfl rfl rfl (by decide) (by decide) (Nat.le_of_ble_eq_true rfl) (by decide) (by decide) dX5_whatIf_30 (fun x5 M6 hf => ?_)
    refine r_aload_n hC dX5_whatIf_33 0 rfl ?_
    refine gf_X5_23 hC (z_1 hZ 0 (by decide) rfl) rfl dX5_whatIf_34 ?_
    refine r_iload_n hC dX5_whatIf_37 1 rfl ?_
    refine r_iload_n hC dX5_whatIf_38 2 rfl ?_
    refine r_callVV [] (fun r M1 h => c_X3_changeSetting (cx_st hC) hz hZ 1 v1 v2 _ (by decide) r M1 h) hf cs_X5_115 hC (z_S hZ (by decide)) (q0 := (RX3, TX3, 4)) rfl rfl [.int v1, .int v2] rfl rfl rfl (by decide) (by decide) (Nat.le_of_ble_eq_true rfl) (by decide) (by decide) dX5_whatIf_39 (fun x7 M8 hf => ?_)
    refine r_aload_n hC dX5_whatIf_42 0 rfl ?_
    refine r_iload_n hC dX5_whatIf_43 3 rfl ?_
    refine r_callVI [] (fun r M1 h => c_X5_numberOfTrial (cx_st hC) hz hZ v3 _  r M1 h) hf cs_X5_188 hC (z_1 hZ 0 (by decide) rfl) (q0 := (RX5, TX5, 7)) rfl rfl [.int v3] rfl rfl rfl (by decide) (by decide) (Nat.le_of_ble_eq_true rfl) (by decide) (by decide) dX5_whatIf_44 (fun x9 M10 hf => ?_)
    exact r_iretT hf hC (by decide) (by decide) dX5_whatIf_47
  · have hf := if_T hf h
    exact r_throw hf hC hno th_iae dX5_whatIf_8 dX5_whatIf_11 dX5_whatIf_12 dX5_whatIf_15 (by decide) (by decide) (by decide) (by decide)
set_option maxRecDepth 20000 in
theorem c_X5_whatIf {l : Launch} (hl : l.stackTraces = false) {G : GG} {Z : ZZ} (hz : ZOk G Z) (hZ : ZM Z) (v1 : Int32) (v2 : Int32) (v3 : Int32) (M : Mem)  (r : Except Nat Int32) (M' : Mem) (hf : f_X5_whatIf v1 v2 v3 M = some (r, M')) : CTw (QcTI G Z r M') (XcT G Z r M') l G Z yX5_whatIf cX5_whatIf 4 (some .int) 7 1 6 [.ref (Z.1 0), .int v1, .int v2, .int v3] M :=
  CTw.of [(0, .ref (Z.1 0)), (1, .int v1), (2, .int v2), (3, .int v3)] hl (by decide +kernel) (Nat.le_of_ble_eq_true rfl) rfl (fun _ hC hno => w_X5_whatIf hC hz hZ hno v1 v2 v3 M  hf)
set_option maxRecDepth 20000 in
theorem w_X5_smallestSpan_b41 {X : XX} {G : GG} {Z : ZZ} {r : Int32} {M' : Mem} (hC : Cx X G RX5 cX5_smallestSpan (some .int) 7 0 0 3) (hz : ZOk G Z) (hZ : ZM Z) (v1 : Int32) (k13 : Int32 → Mem → Option (Int32 × Mem)) (hk13 : ∀ (u1 : Int32) (M : Mem), k13 u1 M = some (r, M') → V X G Z M 0 0 (QN X G (QcI G Z r M') 0 0) 13 [(0, .ref (Z.1 0)), (1, .int u1)] []) (M : Mem) (hf : f_X5_smallestSpan_b41 v1 k13 M = some (r, M')) : V X G Z M 0 0 (QN X G (QcI G Z r M') 0 0) 41 [(0, .ref (Z.1 0)), (1, .int v1)] [] := by
  unfold f_X5_smallestSpan_b41 at hf
  refine r_aload_n hC dX5_smallestSpan_41 0 rfl ?_
  refine r_iconst (v := 3) hC dX5_smallestSpan_42 rfl ?_
  refine r_callVI [] (fun r M1 h => c_X5_numberOfTrial (cx_st hC) hz hZ 3 _  r M1 h) hf cs_X5_188 hC (z_1 hZ 0 (by decide) rfl) (q0 := (RX5, TX5, 7)) rfl rfl [.int 3] rfl rfl rfl (by decide) (by decide) (Nat.le_of_ble_eq_true rfl) (by decide) (by decide) dX5_smallestSpan_43 (fun x5 M6 hf => ?_)
  refine r_if_ne 51 hC dX5_smallestSpan_46 (by decide) (fun h => ?_) (fun h => ?_)
  · have hf := if_F hf h
    refine r_iinc (v := v1 + 1) (L' := [(1, .int (v1 + 1)), (0, .ref (Z.1 0))]) hC dX5_smallestSpan_51 1 rfl rfl (by decide) rfl ?_
    refine r_goto 13 hC dX5_smallestSpan_54 (by decide) ?_
    refine r_L [1, 0] rfl ?_
    exact hk13 _ _ hf
  · have hf := if_T hf h
    refine r_iload_n hC dX5_smallestSpan_49 1 rfl ?_
    exact r_iret hf hC (by decide) (by decide) dX5_smallestSpan_50
set_option maxRecDepth 20000 in
theorem w_X5_smallestSpan_b21 {X : XX} {G : GG} {Z : ZZ} {r : Int32} {M' : Mem} (hC : Cx X G RX5 cX5_smallestSpan (some .int) 7 0 0 3) (hz : ZOk G Z) (hZ : ZM Z) (v1 : Int32) (k13 : Int32 → Mem → Option (Int32 × Mem)) (hk13 : ∀ (u1 : Int32) (M : Mem), k13 u1 M = some (r, M') → V X G Z M 0 0 (QN X G (QcI G Z r M') 0 0) 13 [(0, .ref (Z.1 0)), (1, .int u1)] []) (k21 : Int32 → Mem → Option (Int32 × Mem)) (hk21 : ∀ (u2 : Int32) (M : Mem), k21 u2 M = some (r, M') → V X G Z M 0 0 (QN X G (QcI G Z r M') 0 0) 21 [(0, .ref (Z.1 0)), (1, .int v1), (2, .int u2)] []) (v2 : Int32) (M : Mem) (hf : f_X5_smallestSpan_b21 v1 k13 k21 v2 M = some (r, M')) : V X G Z M 0 0 (QN X G (QcI G Z r M') 0 0) 21 [(0, .ref (Z.1 0)), (1, .int v1), (2, .int v2)] [] := by
  unfold f_X5_smallestSpan_b21 at hf
  refine r_iload_n hC dX5_smallestSpan_21 2 rfl ?_
  refine r_iconst (v := 2) hC dX5_smallestSpan_22 rfl ?_
  refine r_icmp_ge 41 hC dX5_smallestSpan_23 (by decide) (fun h => ?_) (fun h => ?_)
  · have hf := if_T hf h
    refine r_L [0, 1] rfl ?_
    exact w_X5_smallestSpan_b41 hC hz hZ v1 k13 hk13 _ hf
  · have hf := if_F hf h
    refine r_aload_n hC dX5_smallestSpan_26 0 rfl ?_
    refine gf_X5_23 hC (z_1 hZ 0 (by decide) rfl) rfl dX5_smallestSpan_27 ?_
    refine r_iload_n hC dX5_smallestSpan_30 2 rfl ?_
    refine r_iload_n hC dX5_smallestSpan_31 1 rfl ?_
    refine r_callVV [] (fun r M1 h => c_X3_changeSetting (cx_st hC) hz hZ 1 v2 v1 _ (by decide) r M1 h) hf cs_X5_115 hC (z_S hZ (by decide)) (q0 := (RX3, TX3, 4)) rfl rfl [.int v2, .int v1] rfl rfl rfl (by decide) (by decide) (Nat.le_of_ble_eq_true rfl) (by decide) (by decide) dX5_smallestSpan_32 (fun x3 M4 hf => ?_)
    refine r_iinc (v := v2 + 1) (L' := [(2, .int (v2 + 1)), (0, .ref (Z.1 0)), (1, .int v1)]) hC dX5_smallestSpan_35 2 rfl rfl (by decide) rfl ?_
    refine r_goto 21 hC dX5_smallestSpan_38 (by decide) ?_
    refine r_L [1, 2, 0] rfl ?_
    exact hk21 _ _ hf
set_option maxRecDepth 20000 in
theorem w_X5_smallestSpan_b13 {X : XX} {G : GG} {Z : ZZ} {r : Int32} {M' : Mem} (hC : Cx X G RX5 cX5_smallestSpan (some .int) 7 0 0 3) (hz : ZOk G Z) (hZ : ZM Z) (k13 : Int32 → Mem → Option (Int32 × Mem)) (hk13 : ∀ (u1 : Int32) (M : Mem), k13 u1 M = some (r, M') → V X G Z M 0 0 (QN X G (QcI G Z r M') 0 0) 13 [(0, .ref (Z.1 0)), (1, .int u1)] []) (v1 : Int32) (M : Mem) (hf : f_X5_smallestSpan_b13 k13 v1 M = some (r, M')) : V X G Z M 0 0 (QN X G (QcI G Z r M') 0 0) 13 [(0, .ref (Z.1 0)), (1, .int v1)] [] := by
  unfold f_X5_smallestSpan_b13 at hf
  refine r_iload_n hC dX5_smallestSpan_13 1 rfl ?_
  refine r_bipush (v := 24) hC dX5_smallestSpan_14 rfl ?_
  refine r_icmp_gt 57 hC dX5_smallestSpan_16 (by decide) (fun h => ?_) (fun h => ?_)
  · have hf := if_T hf h
    refine r_bipush (v := (-9)) hC dX5_smallestSpan_57 rfl ?_
    exact r_iret hf hC (by decide) (by decide) dX5_smallestSpan_59
  · have hf := if_F hf h
    refine r_iconst (v := 0) hC dX5_smallestSpan_19 rfl ?_
    refine r_istore_n (L' := [(2, .int 0), (0, .ref (Z.1 0)), (1, .int v1)]) hC dX5_smallestSpan_20 (by decide) rfl ?_
    refine r_L [1, 2, 0] rfl ?_
    exact lq1_ind (P := fun (u2 : Int32) (M : Mem) => V X G Z M 0 0 (QN X G (QcI G Z r M') 0 0) 21 [(0, .ref (Z.1 0)), (1, .int v1), (2, .int u2)] []) (fun kk hkk u2 M hf => w_X5_smallestSpan_b21 hC hz hZ v1 k13 hk13 kk hkk u2 M hf) _ _ _ hf
set_option maxRecDepth 20000 in
theorem w_X5_smallestSpan {X : XX} {G : GG} {Z : ZZ} (hC : Cx X G RX5 cX5_smallestSpan (some .int) 7 0 0 3) (hz : ZOk G Z) (hZ : ZM Z)  (M : Mem)  {r : Int32} {M' : Mem} (hf : f_X5_smallestSpan  M = some (r, M')) : V X G Z M 0 0 (QN X G (QcI G Z r M') 0 0) 0 [(0, .ref (Z.1 0))] [] := by
  unfold f_X5_smallestSpan at hf
  refine r_aload_n hC dX5_smallestSpan_0 0 rfl ?_
  refine gf_X5_23 hC (z_1 hZ 0 (by decide) rfl) rfl dX5_smallestSpan_1 ?_
  refine r_aload_n hC dX5_smallestSpan_4 0 rfl ?_
  refine gf_X5_19 hC (z_1 hZ 0 (by decide) rfl) rfl dX5_smallestSpan_5 ?_
  refine r_callVV [] (fun r M1 h => c_X3_takeFrom (cx_st hC) hz hZ 1 0 _ (by decide) (by decide) r M1 h) hf cs_X5_73 hC (z_S hZ (by decide)) (q0 := (RX3, TX3, 4)) rfl rfl [.ref (Z.1 (iSt 0))] rfl rfl rfl (by decide) (by decide) (Nat.le_of_ble_eq_true rfl) (by decide) (by decide) dX5_smallestSpan_8 (fun x1 M2 hf => ?_)
  refine r_iconst (v := 1) hC dX5_smallestSpan_11 rfl ?_
  refine r_istore_n (L' := [(1, .int 1), (0, .ref (Z.1 0))]) hC dX5_smallestSpan_12 (by decide) rfl ?_
  refine r_L [1, 0] rfl ?_
  exact lq1_ind (P := fun (u1 : Int32) (M : Mem) => V X G Z M 0 0 (QN X G (QcI G Z r M') 0 0) 13 [(0, .ref (Z.1 0)), (1, .int u1)] []) (fun kk hkk u1 M hf => w_X5_smallestSpan_b13 hC hz hZ  kk hkk u1 M hf) _ _ _ hf
set_option maxRecDepth 20000 in
theorem c_X5_smallestSpan {l : Launch} (hl : l.stackTraces = false) {G : GG} {Z : ZZ} (hz : ZOk G Z) (hZ : ZM Z)  (M : Mem)  (r : Int32) (M' : Mem) (hf : f_X5_smallestSpan  M = some (r, M')) : CN (QcI G Z r M') l G Z yX5_smallestSpan cX5_smallestSpan 3 (some .int) 7 [.ref (Z.1 0)] M :=
  CN.of [(0, .ref (Z.1 0))] hl (by decide +kernel) (Nat.le_of_ble_eq_true rfl) rfl (fun _ hC => w_X5_smallestSpan hC hz hZ  M  hf)
set_option maxRecDepth 20000 in
theorem w_X5_dearest_b7 {X : XX} {G : GG} {Z : ZZ} {r : Int32} {M' : Mem} (hC : Cx X G RX5 cX5_dearest (some .int) 7 0 0 5) (hz : ZOk G Z) (hZ : ZM Z) (k7 : Int32 → Int32 → Int32 → Mem → Option (Int32 × Mem)) (hk7 : ∀ (u1 : Int32) (u2 : Int32) (u3 : Int32) (M : Mem), k7 u1 u2 u3 M = some (r, M') → V X G Z M 0 0 (QN X G (QcI G Z r M') 0 0) 7 [(0, .ref (Z.1 0)), (1, .int u1), (2, .int u2), (3, .int u3)] []) (v1 : Int32) (v2 : Int32) (v3 : Int32) (M : Mem) (hf : f_X5_dearest_b7 k7 v1 v2 v3 M = some (r, M')) : V X G Z M 0 0 (QN X G (QcI G Z r M') 0 0) 7 [(0, .ref (Z.1 0)), (1, .int v1), (2, .int v2), (3, .int v3)] [] := by
  unfold f_X5_dearest_b7 at hf
  refine r_iload_n hC dX5_dearest_7 3 rfl ?_
  refine r_aload_n hC dX5_dearest_8 0 rfl ?_
  refine gf_X5_19 hC (z_1 hZ 0 (by decide) rfl) rfl dX5_dearest_9 ?_
  refine gf_X5_88 hC (z_S hZ (by decide)) rfl dX5_dearest_12 ?_
  refine r_icmp_ge 61 hC dX5_dearest_15 (by decide) (fun h => ?_) (fun h => ?_)
  · have hf := if_T hf h
    refine r_iload_n hC dX5_dearest_61 1 rfl ?_
    exact r_iret hf hC (by decide) (by decide) dX5_dearest_62
  · have hf := if_F hf h
    refine r_aload_n hC dX5_dearest_18 0 rfl ?_
    refine gf_X5_23 hC (z_1 hZ 0 (by decide) rfl) rfl dX5_dearest_19 ?_
    refine r_aload_n hC dX5_dearest_22 0 rfl ?_
    refine gf_X5_19 hC (z_1 hZ 0 (by decide) rfl) rfl dX5_dearest_23 ?_
    refine r_callVV [] (fun r M1 h => c_X3_takeFrom (cx_st hC) hz hZ 1 0 _ (by decide) (by decide) r M1 h) hf cs_X5_73 hC (z_S hZ (by decide)) (q0 := (RX3, TX3, 4)) rfl rfl [.ref (Z.1 (iSt 0))] rfl rfl rfl (by decide) (by decide) (Nat.le_of_ble_eq_true rfl) (by decide) (by decide) dX5_dearest_26 (fun x1 M2 hf => ?_)
    refine r_aload_n hC dX5_dearest_29 0 rfl ?_
    refine gf_X5_23 hC (z_1 hZ 0 (by decide) rfl) rfl dX5_dearest_30 ?_
    refine r_iload_n hC dX5_dearest_33 3 rfl ?_
    refine r_callVV [] (fun r M1 h => c_X3_silenceStaff (cx_st hC) hz hZ 1 v3 _ (by decide) r M1 h) hf cs_X5_192 hC (z_S hZ (by decide)) (q0 := (RX3, TX3, 4)) rfl rfl [.int v3] rfl rfl rfl (by decide) (by decide) (Nat.le_of_ble_eq_true rfl) (by decide) (by decide) dX5_dearest_34 (fun x3 M4 hf => ?_)
    refine r_aload_n hC dX5_dearest_37 0 rfl ?_
    refine r_iconst (v := 0) hC dX5_dearest_38 rfl ?_
    refine r_callVI [] (fun r M1 h => c_X5_numberOfTrial (cx_st hC) hz hZ 0 _  r M1 h) hf cs_X5_188 hC (z_1 hZ 0 (by decide) rfl) (q0 := (RX5, TX5, 7)) rfl rfl [.int 0] rfl rfl rfl (by decide) (by decide) (Nat.le_of_ble_eq_true rfl) (by decide) (by decide) dX5_dearest_39 (fun x5 M6 hf => ?_)
    refine r_istore (L' := [(4, .int x5), (0, .ref (Z.1 0)), (1, .int v1), (2, .int v2), (3, .int v3)]) hC dX5_dearest_42 (by decide) rfl ?_
    refine r_iload hC dX5_dearest_44 0 rfl ?_
    refine r_iload_n hC dX5_dearest_46 3 rfl ?_
    refine r_icmp_ge 55 hC dX5_dearest_47 (by decide) (fun h => ?_) (fun h => ?_)
    · have hf := if_T hf h
      refine r_iinc (v := v3 + 1) (L' := [(3, .int (v3 + 1)), (4, .int x5), (0, .ref (Z.1 0)), (1, .int v1), (2, .int v2)]) hC dX5_dearest_55 4 rfl rfl (by decide) rfl ?_
      refine r_goto 7 hC dX5_dearest_58 (by decide) ?_
      refine r_L [2, 3, 4, 0] rfl ?_
      exact hk7 _ _ _ _ hf
    · have hf := if_F hf h
      refine r_iload hC dX5_dearest_50 0 rfl ?_
      refine r_istore_n (L' := [(2, .int x5), (4, .int x5), (0, .ref (Z.1 0)), (1, .int v1), (3, .int v3)]) hC dX5_dearest_52 (by decide) rfl ?_
      refine r_iload_n hC dX5_dearest_53 4 rfl ?_
      refine r_istore_n (L' := [(1, .int v3), (2, .int x5), (4, .int x5), (0, .ref (Z.1 0)), (3, .int v3)]) hC dX5_dearest_54 (by decide) rfl ?_
      refine r_iinc (v := v3 + 1) (L' := [(3, .int (v3 + 1)), (1, .int v3), (2, .int x5), (4, .int x5), (0, .ref (Z.1 0))]) hC dX5_dearest_55 4 rfl rfl (by decide) rfl ?_
      refine r_goto 7 hC dX5_dearest_58 (by decide) ?_
      refine r_L [4, 1, 2, 0] rfl ?_
      exact hk7 _ _ _ _ hf
set_option maxRecDepth 20000 in
theorem w_X5_dearest {X : XX} {G : GG} {Z : ZZ} (hC : Cx X G RX5 cX5_dearest (some .int) 7 0 0 5) (hz : ZOk G Z) (hZ : ZM Z)  (M : Mem)  {r : Int32} {M' : Mem} (hf : f_X5_dearest  M = some (r, M')) : V X G Z M 0 0 (QN X G (QcI G Z r M') 0 0) 0 [(0, .ref (Z.1 0))] [] := by
  unfold f_X5_dearest at hf
  refine r_iconst (v := 0) hC dX5_dearest_0 rfl ?_
  refine r_istore_n (L' := [(1, .int 0), (0, .ref (Z.1 0))]) hC dX5_dearest_1 (by decide) rfl ?_
  refine r_ldc (v := 1000000) hC dX5_dearest_2 kw_X5_191 ?_
  refine r_istore_n (L' := [(2, .int 1000000), (1, .int 0), (0, .ref (Z.1 0))]) hC dX5_dearest_4 (by decide) rfl ?_
  refine r_iconst (v := 0) hC dX5_dearest_5 rfl ?_
  refine r_istore_n (L' := [(3, .int 0), (2, .int 1000000), (1, .int 0), (0, .ref (Z.1 0))]) hC dX5_dearest_6 (by decide) rfl ?_
  refine r_L [3, 2, 1, 0] rfl ?_
  exact lq3_ind (P := fun (u1 : Int32) (u2 : Int32) (u3 : Int32) (M : Mem) => V X G Z M 0 0 (QN X G (QcI G Z r M') 0 0) 7 [(0, .ref (Z.1 0)), (1, .int u1), (2, .int u2), (3, .int u3)] []) (fun kk hkk u1 u2 u3 M hf => w_X5_dearest_b7 hC hz hZ  kk hkk u1 u2 u3 M hf) _ _ _ _ _ hf
set_option maxRecDepth 20000 in
theorem c_X5_dearest {l : Launch} (hl : l.stackTraces = false) {G : GG} {Z : ZZ} (hz : ZOk G Z) (hZ : ZM Z)  (M : Mem)  (r : Int32) (M' : Mem) (hf : f_X5_dearest  M = some (r, M')) : CN (QcI G Z r M') l G Z yX5_dearest cX5_dearest 5 (some .int) 7 [.ref (Z.1 0)] M :=
  CN.of [(0, .ref (Z.1 0))] hl (by decide +kernel) (Nat.le_of_ble_eq_true rfl) rfl (fun _ hC => w_X5_dearest hC hz hZ  M  hf)
set_option maxRecDepth 20000 in
theorem w_X5_bestTransposition_b42 {X : XX} {G : GG} {Z : ZZ} {r : Except Nat Int32} {M' : Mem} (hC : Cx X G RX5 cX5_bestTransposition (some .int) 7 1 6 7) (hz : ZOk G Z) (hZ : ZM Z) (hno : ∀ x ∈ (xc X).exceptionTable.toList, False) (v1 : Int32) (v2 : Int32) (v3 : Int32) (v4 : Int32) (k13 : Int32 → Int32 → Int32 → Mem → Option (Except Nat Int32 × Mem)) (hk13 : ∀ (u2 : Int32) (u3 : Int32) (u4 : Int32) (M : Mem), k13 u2 u3 u4 M = some (r, M') → V X G Z M 0 0 (QT X G (QcTI G Z r M') (XcT G Z r M') 1 6) 13 [(0, .ref (Z.1 0)), (1, .int v1), (2, .int u2), (3, .int u3), (4, .int u4)] []) (s0 : Int32) (M : Mem) (hf : f_X5_bestTransposition_b42 v1 v2 v3 v4 k13 s0 M = some (r, M')) : V X G Z M 0 0 (QT X G (QcTI G Z r M') (XcT G Z r M') 1 6) 42 [(0, .ref (Z.1 0)), (1, .int v1), (2, .int v2), (3, .int v3), (4, .int v4)] [.int s0] := by
  unfold f_X5_bestTransposition_b42 at hf
  refine r_istore (L' := [(5, .int s0), (0, .ref (Z.1 0)), (1, .int v1), (2, .int v2), (3, .int v3), (4, .int v4)]) hC dX5_bestTransposition_42 (by decide) rfl ?_
  refine r_aload_n hC dX5_bestTransposition_44 1 rfl ?_
  refine gf_X5_19 hC (z_1 hZ 0 (by decide) rfl) rfl dX5_bestTransposition_45 ?_
  refine r_iload_n hC dX5_bestTransposition_48 2 rfl ?_
  refine r_iload hC dX5_bestTransposition_49 0 rfl ?_
  refine r_callVI [] (fun r M1 h => c_X3_allowsMoving (cx_st hC) hz hZ 0 v1 s0 _ (by decide) r M1 h) hf cs_X5_136 hC (z_S hZ (by decide)) (q0 := (RX3, TX3, 4)) rfl rfl [.int v1, .int s0] rfl rfl rfl (by decide) (by decide) (Nat.le_of_ble_eq_true rfl) (by decide) (by decide) dX5_bestTransposition_51 (fun x3 M4 hf => ?_)
  refine r_if_eq 98 hC dX5_bestTransposition_54 (by decide) (fun h => ?_) (fun h => ?_)
  · have hf := if_T hf h
    refine r_iinc (v := v4 + 1) (L' := [(4, .int (v4 + 1)), (5, .int s0), (0, .ref (Z.1 0)), (1, .int v1), (2, .int v2), (3, .int v3)]) hC dX5_bestTransposition_98 5 rfl rfl (by decide) rfl ?_
    refine r_goto 13 hC dX5_bestTransposition_101 (by decide) ?_
    refine r_L [2, 3, 4, 5, 0] rfl ?_
    exact hk13 _ _ _ _ hf
  · have hf := if_F hf h
    refine r_aload_n hC dX5_bestTransposition_57 1 rfl ?_
    refine gf_X5_23 hC (z_1 hZ 0 (by decide) rfl) rfl dX5_bestTransposition_58 ?_
    refine r_aload_n hC dX5_bestTransposition_61 1 rfl ?_
    refine gf_X5_19 hC (z_1 hZ 0 (by decide) rfl) rfl dX5_bestTransposition_62 ?_
    refine r_callVV [] (fun r M1 h => c_X3_takeFrom (cx_st hC) hz hZ 1 0 _ (by decide) (by decide) r M1 h) hf cs_X5_73 hC (z_S hZ (by decide)) (q0 := (RX3, TX3, 4)) rfl rfl [.ref (Z.1 (iSt 0))] rfl rfl rfl (by decide) (by decide) (Nat.le_of_ble_eq_true rfl) (by decide) (by decide) dX5_bestTransposition_65 (fun x5 M6 hf => ?_)
    refine r_aload_n hC dX5_bestTransposition_68 1 rfl ?_
    refine gf_X5_23 hC (z_1 hZ 0 (by decide) rfl) rfl dX5_bestTransposition_69 ?_
    refine r_iload_n hC dX5_bestTransposition_72 2 rfl ?_
    refine r_iload hC dX5_bestTransposition_73 0 rfl ?_
    refine r_callVI [] (fun r M1 h => c_X3_moveStaff (cx_st hC) hz hZ 1 v1 s0 _ (by decide) r M1 h) hf cs_X5_139 hC (z_S hZ (by decide)) (q0 := (RX3, TX3, 4)) rfl rfl [.int v1, .int s0] rfl rfl rfl (by decide) (by decide) (Nat.le_of_ble_eq_true rfl) (by decide) (by decide) dX5_bestTransposition_75 (fun x7 M8 hf => ?_)
    refine r_pop hC dX5_bestTransposition_78 rfl ?_
    refine r_aload_n hC dX5_bestTransposition_79 1 rfl ?_
    refine r_iconst (v := 0) hC dX5_bestTransposition_80 rfl ?_
    refine r_callVI [] (fun r M1 h => c_X5_numberOfTrial (cx_st hC) hz hZ 0 _  r M1 h) hf cs_X5_188 hC (z_1 hZ 0 (by decide) rfl) (q0 := (RX5, TX5, 7)) rfl rfl [.int 0] rfl rfl rfl (by decide) (by decide) (Nat.le_of_ble_eq_true rfl) (by decide) (by decide) dX5_bestTransposition_81 (fun x9 M10 hf => ?_)
    refine r_istore (L' := [(6, .int x9), (5, .int s0), (0, .ref (Z.1 0)), (1, .int v1), (2, .int v2), (3, .int v3), (4, .int v4)]) hC dX5_bestTransposition_84 (by decide) rfl ?_
    refine r_iload hC dX5_bestTransposition_86 0 rfl ?_
    refine r_iload_n hC dX5_bestTransposition_88 5 rfl ?_
    refine r_icmp_ge 98 hC dX5_bestTransposition_89 (by decide) (fun h => ?_) (fun h => ?_)
    · have hf := if_T hf h
      refine r_iinc (v := v4 + 1) (L' := [(4, .int (v4 + 1)), (6, .int x9), (5, .int s0), (0, .ref (Z.1 0)), (1, .int v1), (2, .int v2), (3, .int v3)]) hC dX5_bestTransposition_98 6 rfl rfl (by decide) rfl ?_
      refine r_goto 13 hC dX5_bestTransposition_101 (by decide) ?_
      refine r_L [3, 4, 5, 6, 0] rfl ?_
      exact hk13 _ _ _ _ hf
    · have hf := if_F hf h
      refine r_iload hC dX5_bestTransposition_92 0 rfl ?_
      refine r_istore_n (L' := [(3, .int x9), (6, .int x9), (5, .int s0), (0, .ref (Z.1 0)), (1, .int v1), (2, .int v2), (4, .int v4)]) hC dX5_bestTransposition_94 (by decide) rfl ?_
      refine r_iload hC dX5_bestTransposition_95 2 rfl ?_
      refine r_istore_n (L' := [(2, .int s0), (3, .int x9), (6, .int x9), (5, .int s0), (0, .ref (Z.1 0)), (1, .int v1), (4, .int v4)]) hC dX5_bestTransposition_97 (by decide) rfl ?_
      refine r_iinc (v := v4 + 1) (L' := [(4, .int (v4 + 1)), (2, .int s0), (3, .int x9), (6, .int x9), (5, .int s0), (0, .ref (Z.1 0)), (1, .int v1)]) hC dX5_bestTransposition_98 6 rfl rfl (by decide) rfl ?_
      refine r_goto 13 hC dX5_bestTransposition_101 (by decide) ?_
      refine r_L [5, 6, 1, 2, 0] rfl ?_
      exact hk13 _ _ _ _ hf
set_option maxRecDepth 20000 in
theorem w_X5_bestTransposition_b13 {X : XX} {G : GG} {Z : ZZ} {r : Except Nat Int32} {M' : Mem} (hC : Cx X G RX5 cX5_bestTransposition (some .int) 7 1 6 7) (hz : ZOk G Z) (hZ : ZM Z) (hno : ∀ x ∈ (xc X).exceptionTable.toList, False) (v1 : Int32) (k13 : Int32 → Int32 → Int32 → Mem → Option (Except Nat Int32 × Mem)) (hk13 : ∀ (u2 : Int32) (u3 : Int32) (u4 : Int32) (M : Mem), k13 u2 u3 u4 M = some (r, M') → V X G Z M 0 0 (QT X G (QcTI G Z r M') (XcT G Z r M') 1 6) 13 [(0, .ref (Z.1 0)), (1, .int v1), (2, .int u2), (3, .int u3), (4, .int u4)] []) (v2 : Int32) (v3 : Int32) (v4 : Int32) (M : Mem) (hf : f_X5_bestTransposition_b13 v1 k13 v2 v3 v4 M = some (r, M')) : V X G Z M 0 0 (QT X G (QcTI G Z r M') (XcT G Z r M') 1 6) 13 [(0, .ref (Z.1 0)), (1, .int v1), (2, .int v2), (3, .int v3), (4, .int v4)] [] := by
  unfold f_X5_bestTransposition_b13 at hf
  refine r_iload hC dX5_bestTransposition_13 4 rfl ?_
  refine r_bipush (v := 120) hC dX5_bestTransposition_15 rfl ?_
  refine r_icmp_gt 104 hC dX5_bestTransposition_17 (by decide) (fun h => ?_) (fun h => ?_)
  · have hf := if_T hf h
    refine r_iload_n hC dX5_bestTransposition_104 2 rfl ?_
    exact r_iretT hf hC (by decide) (by decide) dX5_bestTransposition_105
  · have hf := if_F hf h
    refine r_iload hC dX5_bestTransposition_20 4 rfl ?_
    refine r_iconst (v := 2) hC dX5_bestTransposition_22 rfl ?_
    refine r_irem hC dX5_bestTransposition_23 (by decide) ?_
    refine r_iconst (v := 1) hC dX5_bestTransposition_24 rfl ?_
    refine r_icmp_ne 37 hC dX5_bestTransposition_25 (by decide) (fun h => ?_) (fun h => ?_)
    · have hf := if_F hf h
      refine r_iload hC dX5_bestTransposition_37 4 rfl ?_
      refine r_iconst (v := 2) hC dX5_bestTransposition_39 rfl ?_
      refine r_idiv hC dX5_bestTransposition_40 (by decide) ?_
      refine r_ineg hC dX5_bestTransposition_41 ?_
      exact w_X5_bestTransposition_b42 hC hz hZ hno v1 v2 v3 v4 k13 hk13 (-(v4 / 2)) _ hf
    · have hf := if_T hf h
      refine r_iload hC dX5_bestTransposition_28 4 rfl ?_
      refine r_iconst (v := 1) hC dX5_bestTransposition_30 rfl ?_
      refine r_iadd hC dX5_bestTransposition_31 ?_
      refine r_iconst (v := 2) hC dX5_bestTransposition_32 rfl ?_
      refine r_idiv hC dX5_bestTransposition_33 (by decide) ?_
      refine r_goto 42 hC dX5_bestTransposition_34 (by decide) ?_
      exact w_X5_bestTransposition_b42 hC hz hZ hno v1 v2 v3 v4 k13 hk13 ((v4 + 1) / 2) _ hf
set_option maxRecDepth 20000 in
theorem w_X5_bestTransposition {X : XX} {G : GG} {Z : ZZ} (hC : Cx X G RX5 cX5_bestTransposition (some .int) 7 1 6 7) (hz : ZOk G Z) (hZ : ZM Z) (hno : ∀ x ∈ (xc X).exceptionTable.toList, False) (v1 : Int32) (M : Mem)  {r : Except Nat Int32} {M' : Mem} (hf : f_X5_bestTransposition v1 M = some (r, M')) : V X G Z M 0 0 (QT X G (QcTI G Z r M') (XcT G Z r M') 1 6) 0 [(0, .ref (Z.1 0)), (1, .int v1)] [] := by
  unfold f_X5_bestTransposition at hf
  refine r_aload_n hC dX5_bestTransposition_0 0 rfl ?_
  refine r_iload_n hC dX5_bestTransposition_1 1 rfl ?_
  refine r_tcallVV [] (fun r M1 h => c_X5_requireStaff (cx_st hC) hz hZ v1 _  r M1 h) (fun r M1 h => k_X5_requireStaff (cx_st hC) hz hZ v1 _  r M1 h) hf cs_X5_132 hC hno (z_1 hZ 0 (by decide) rfl) (q0 := (RX5, TX5, 7)) rfl rfl [.int v1] rfl rfl rfl (by decide) (by decide) (Nat.le_of_ble_eq_true rfl) (by decide) (by decide) dX5_bestTransposition_2 (fun x1 M2 hf => ?_)
  refine r_iconst (v := 0) hC dX5_bestTransposition_5 rfl ?_
  refine r_istore_n (L' := [(2, .int 0), (0, .ref (Z.1 0)), (1, .int v1)]) hC dX5_bestTransposition_6 (by decide) rfl ?_
  refine r_ldc (v := 1000000) hC dX5_bestTransposition_7 kw_X5_191 ?_
  refine r_istore_n (L' := [(3, .int 1000000), (2, .int 0), (0, .ref (Z.1 0)), (1, .int v1)]) hC dX5_bestTransposition_9 (by decide) rfl ?_
  refine r_iconst (v := 0) hC dX5_bestTransposition_10 rfl ?_
  refine r_istore (L' := [(4, .int 0), (3, .int 1000000), (2, .int 0), (0, .ref (Z.1 0)), (1, .int v1)]) hC dX5_bestTransposition_11 (by decide) rfl ?_
  refine r_L [3, 4, 2, 1, 0] rfl ?_
  exact lq3_ind (P := fun (u2 : Int32) (u3 : Int32) (u4 : Int32) (M : Mem) => V X G Z M 0 0 (QT X G (QcTI G Z r M') (XcT G Z r M') 1 6) 13 [(0, .ref (Z.1 0)), (1, .int v1), (2, .int u2), (3, .int u3), (4, .int u4)] []) (fun kk hkk u2 u3 u4 M hf => w_X5_bestTransposition_b13 hC hz hZ hno v1 kk hkk u2 u3 u4 M hf) _ _ _ _ _ hf
set_option maxRecDepth 20000 in
theorem c_X5_bestTransposition {l : Launch} (hl : l.stackTraces = false) {G : GG} {Z : ZZ} (hz : ZOk G Z) (hZ : ZM Z) (v1 : Int32) (M : Mem)  (r : Except Nat Int32) (M' : Mem) (hf : f_X5_bestTransposition v1 M = some (r, M')) : CTw (QcTI G Z r M') (XcT G Z r M') l G Z yX5_bestTransposition cX5_bestTransposition 7 (some .int) 7 1 6 [.ref (Z.1 0), .int v1] M :=
  CTw.of [(0, .ref (Z.1 0)), (1, .int v1)] hl (by decide +kernel) (Nat.le_of_ble_eq_true rfl) rfl (fun _ hC hno => w_X5_bestTransposition hC hz hZ hno v1 M  hf)
set_option maxRecDepth 20000 in
theorem w_X5_groupFromEnd_b5 {X : XX} {G : GG} {Z : ZZ} {r : Int64} {M' : Mem} (hC : Cx X G RX5 cX5_groupFromEnd (some .long) 0 0 0 6) (hz : ZOk G Z) (hZ : ZM Z) (v2 : Int32) (k5 : Int64 → Int32 → Mem → Option (Int64 × Mem)) (hk5 : ∀ (u3 : Int64) (u5 : Int32) (M : Mem), k5 u3 u5 M = some (r, M') → V X G Z M 0 0 (QN X G (QcL G Z r M') 0 0) 5 [(2, .int v2), (3, .long u3), (5, .int u5)] []) (w3 : Int64) (v5 : Int32) (M : Mem) (hf : f_X5_groupFromEnd_b5 v2 k5 w3 v5 M = some (r, M')) : V X G Z M 0 0 (QN X G (QcL G Z r M') 0 0) 5 [(2, .int v2), (3, .long w3), (5, .int v5)] [] := by
  unfold f_X5_groupFromEnd_b5 at hf
  refine r_iload hC dX5_groupFromEnd_5 2 rfl ?_
  refine r_iload_n hC dX5_groupFromEnd_7 0 rfl ?_
  refine r_icmp_ge 23 hC dX5_groupFromEnd_8 (by decide) (fun h => ?_) (fun h => ?_)
  · have hf := if_T hf h
    refine r_lload_n hC dX5_groupFromEnd_23 1 rfl ?_
    exact r_lret hf hC (by decide) (by decide) dX5_groupFromEnd_24
  · have hf := if_F hf h
    refine r_lload_n hC dX5_groupFromEnd_11 1 rfl ?_
    refine r_ldc2 (v := 100000) hC dX5_groupFromEnd_12 kw_X5_199 ?_
    refine r_ldiv hC dX5_groupFromEnd_15 (by decide) ?_
    refine r_lstore_n (L' := [(3, .long (w3 / 100000)), (2, .int v2), (5, .int v5)]) hC dX5_groupFromEnd_16 (by decide) rfl ?_
    refine r_iinc (v := v5 + 1) (L' := [(5, .int (v5 + 1)), (3, .long (w3 / 100000)), (2, .int v2)]) hC dX5_groupFromEnd_17 2 rfl rfl (by decide) rfl ?_
    refine r_goto 5 hC dX5_groupFromEnd_20 (by decide) ?_
    refine r_L [2, 1, 0] rfl ?_
    exact hk5 _ _ _ hf
set_option maxRecDepth 20000 in
theorem w_X5_groupFromEnd {X : XX} {G : GG} {Z : ZZ} (hC : Cx X G RX5 cX5_groupFromEnd (some .long) 0 0 0 6) (hz : ZOk G Z) (hZ : ZM Z) (w0 : Int64) (v2 : Int32) (M : Mem)  {r : Int64} {M' : Mem} (hf : f_X5_groupFromEnd w0 v2 M = some (r, M')) : V X G Z M 0 0 (QN X G (QcL G Z r M') 0 0) 0 [(0, .long w0), (2, .int v2)] [] := by
  unfold f_X5_groupFromEnd at hf
  refine r_lload_n hC dX5_groupFromEnd_0 0 rfl ?_
  refine r_lstore_n (L' := [(3, .long w0), (0, .long w0), (2, .int v2)]) hC dX5_groupFromEnd_1 (by decide) rfl ?_
  refine r_iconst (v := 0) hC dX5_groupFromEnd_2 rfl ?_
  refine r_istore (L' := [(5, .int 0), (3, .long w0), (0, .long w0), (2, .int v2)]) hC dX5_groupFromEnd_3 (by decide) rfl ?_
  refine r_L [3, 1, 0] rfl ?_
  exact lq2_ind (P := fun (u3 : Int64) (u5 : Int32) (M : Mem) => V X G Z M 0 0 (QN X G (QcL G Z r M') 0 0) 5 [(2, .int v2), (3, .long u3), (5, .int u5)] []) (fun kk hkk u3 u5 M hf => w_X5_groupFromEnd_b5 hC hz hZ v2 kk hkk u3 u5 M hf) _ _ _ _ hf
set_option maxRecDepth 20000 in
theorem c_X5_groupFromEnd {l : Launch} (hl : l.stackTraces = false) {G : GG} {Z : ZZ} (hz : ZOk G Z) (hZ : ZM Z) (w0 : Int64) (v2 : Int32) (M : Mem)  (r : Int64) (M' : Mem) (hf : f_X5_groupFromEnd w0 v2 M = some (r, M')) : CN (QcL G Z r M') l G Z yX5_groupFromEnd cX5_groupFromEnd 6 (some .long) 0 [.long w0, .int v2] M :=
  CN.of [(0, .long w0), (2, .int v2)] hl (by decide +kernel) (Nat.le_of_ble_eq_true rfl) rfl (fun _ hC => w_X5_groupFromEnd hC hz hZ w0 v2 M  hf)
set_option maxRecDepth 20000 in
theorem w_X5_triedCell {X : XX} {G : GG} {Z : ZZ} (hC : Cx X G RX5 cX5_triedCell (some .boolean) 4 0 0 4) (hz : ZOk G Z) (hZ : ZM Z) (v1 : Int32) (v2 : Int32) (v3 : Int32) (M : Mem)  {r : Int32} {M' : Mem} (hf : f_X5_triedCell v1 v2 v3 M = some (r, M')) : V X G Z M 0 0 (QN X G (QcI G Z r M') 0 0) 0 [(0, .ref (Z.1 0)), (1, .int v1), (2, .int v2), (3, .int v3)] [] := by
  unfold f_X5_triedCell at hf
  refine r_aload_n hC dX5_triedCell_0 0 rfl ?_
  refine gf_X5_23 hC (z_1 hZ 0 (by decide) rfl) rfl dX5_triedCell_1 ?_
  refine r_iload_n hC dX5_triedCell_4 1 rfl ?_
  refine r_iload_n hC dX5_triedCell_5 2 rfl ?_
  refine r_callVI [] (fun r M1 h => c_X3_hasCell (cx_st hC) hz hZ 1 v1 v2 _ (by decide) r M1 h) hf cs_X5_233 hC (z_S hZ (by decide)) (q0 := (RX3, TX3, 4)) rfl rfl [.int v1, .int v2] rfl rfl rfl (by decide) (by decide) (Nat.le_of_ble_eq_true rfl) (by decide) (by decide) dX5_triedCell_6 (fun x1 M2 hf => ?_)
  refine r_if_ne 14 hC dX5_triedCell_9 (by decide) (fun h => ?_) (fun h => ?_)
  · have hf := if_F hf h
    refine r_aload_n hC dX5_triedCell_14 0 rfl ?_
    refine gf_X5_23 hC (z_1 hZ 0 (by decide) rfl) rfl dX5_triedCell_15 ?_
    refine r_iload_n hC dX5_triedCell_18 1 rfl ?_
    refine r_iload_n hC dX5_triedCell_19 2 rfl ?_
    refine r_iload_n hC dX5_triedCell_20 3 rfl ?_
    refine r_callVV [] (fun r M1 h => c_X3_put (cx_st hC) hz hZ 1 v1 v2 v3 _ (by decide) r M1 h) hf cs_X5_125 hC (z_S hZ (by decide)) (q0 := (RX3, TX3, 4)) rfl rfl [.int v1, .int v2, .int v3] rfl rfl rfl (by decide) (by decide) (Nat.le_of_ble_eq_true rfl) (by decide) (by decide) dX5_triedCell_21 (fun x3 M4 hf => ?_)
    refine r_aload_n hC dX5_triedCell_24 0 rfl ?_
    refine gf_X5_23 hC (z_1 hZ 0 (by decide) rfl) rfl dX5_triedCell_25 ?_
    refine r_callVV [] (fun r M1 h => c_X3_dropLooseHolds (cx_st hC) hz hZ 1 _ (by decide) r M1 h) hf cs_X5_129 hC (z_S hZ (by decide)) (q0 := (RX3, TX3, 4)) rfl rfl [] rfl rfl rfl (by decide) (by decide) (Nat.le_of_ble_eq_true rfl) (by decide) (by decide) dX5_triedCell_28 (fun x5 M6 hf => ?_)
    refine r_iconst (v := 1) hC dX5_triedCell_31 rfl ?_
    exact r_zret hf hC rfl rfl (by decide) (by decide) dX5_triedCell_32
  · have hf := if_T hf h
    refine r_iconst (v := 0) hC dX5_triedCell_12 rfl ?_
    exact r_zret hf hC rfl rfl (by decide) (by decide) dX5_triedCell_13
set_option maxRecDepth 20000 in
theorem c_X5_triedCell {l : Launch} (hl : l.stackTraces = false) {G : GG} {Z : ZZ} (hz : ZOk G Z) (hZ : ZM Z) (v1 : Int32) (v2 : Int32) (v3 : Int32) (M : Mem)  (r : Int32) (M' : Mem) (hf : f_X5_triedCell v1 v2 v3 M = some (r, M')) : CN (QcI G Z r M') l G Z yX5_triedCell cX5_triedCell 4 (some .boolean) 4 [.ref (Z.1 0), .int v1, .int v2, .int v3] M :=
  CN.of [(0, .ref (Z.1 0)), (1, .int v1), (2, .int v2), (3, .int v3)] hl (by decide +kernel) (Nat.le_of_ble_eq_true rfl) rfl (fun _ hC => w_X5_triedCell hC hz hZ v1 v2 v3 M  hf)
set_option maxRecDepth 20000 in
theorem w_X5_triedExchange {X : XX} {G : GG} {Z : ZZ} (hC : Cx X G RX5 cX5_triedExchange (some .boolean) 4 0 0 3) (hz : ZOk G Z) (hZ : ZM Z) (v1 : Int32) (v2 : Int32) (M : Mem)  {r : Int32} {M' : Mem} (hf : f_X5_triedExchange v1 v2 M = some (r, M')) : V X G Z M 0 0 (QN X G (QcI G Z r M') 0 0) 0 [(0, .ref (Z.1 0)), (1, .int v1), (2, .int v2)] [] := by
  unfold f_X5_triedExchange at hf
  refine r_aload_n hC dX5_triedExchange_0 0 rfl ?_
  refine gf_X5_23 hC (z_1 hZ 0 (by decide) rfl) rfl dX5_triedExchange_1 ?_
  refine r_iload_n hC dX5_triedExchange_4 1 rfl ?_
  refine r_callVI [] (fun r M1 h => c_X3_hasStaff (cx_st hC) hz hZ 1 v1 _ (by decide) r M1 h) hf cs_X5_214 hC (z_S hZ (by decide)) (q0 := (RX3, TX3, 4)) rfl rfl [.int v1] rfl rfl rfl (by decide) (by decide) (Nat.le_of_ble_eq_true rfl) (by decide) (by decide) dX5_triedExchange_5 (fun x1 M2 hf => ?_)
  refine r_if_eq 22 hC dX5_triedExchange_8 (by decide) (fun h => ?_) (fun h => ?_)
  · have hf := if_T hf h
    refine r_iconst (v := 0) hC dX5_triedExchange_22 rfl ?_
    exact r_zret hf hC rfl rfl (by decide) (by decide) dX5_triedExchange_23
  · have hf := if_F hf h
    refine r_aload_n hC dX5_triedExchange_11 0 rfl ?_
    refine gf_X5_23 hC (z_1 hZ 0 (by decide) rfl) rfl dX5_triedExchange_12 ?_
    refine r_iload_n hC dX5_triedExchange_15 2 rfl ?_
    refine r_callVI [] (fun r M1 h => c_X3_hasStaff (cx_st hC) hz hZ 1 v2 _ (by decide) r M1 h) hf cs_X5_214 hC (z_S hZ (by decide)) (q0 := (RX3, TX3, 4)) rfl rfl [.int v2] rfl rfl rfl (by decide) (by decide) (Nat.le_of_ble_eq_true rfl) (by decide) (by decide) dX5_triedExchange_16 (fun x3 M4 hf => ?_)
    refine r_if_ne 24 hC dX5_triedExchange_19 (by decide) (fun h => ?_) (fun h => ?_)
    · have hf := if_F hf h
      refine r_aload_n hC dX5_triedExchange_24 0 rfl ?_
      refine gf_X5_23 hC (z_1 hZ 0 (by decide) rfl) rfl dX5_triedExchange_25 ?_
      refine r_iload_n hC dX5_triedExchange_28 1 rfl ?_
      refine r_iload_n hC dX5_triedExchange_29 2 rfl ?_
      refine r_callVI [] (fun r M1 h => c_X3_swapStaves (cx_st hC) hz hZ 1 v1 v2 _ (by decide) r M1 h) hf cs_X5_142 hC (z_S hZ (by decide)) (q0 := (RX3, TX3, 4)) rfl rfl [.int v1, .int v2] rfl rfl rfl (by decide) (by decide) (Nat.le_of_ble_eq_true rfl) (by decide) (by decide) dX5_triedExchange_30 (fun x5 M6 hf => ?_)
      refine r_pop hC dX5_triedExchange_33 rfl ?_
      refine r_iconst (v := 1) hC dX5_triedExchange_34 rfl ?_
      exact r_zret hf hC rfl rfl (by decide) (by decide) dX5_triedExchange_35
    · have hf := if_T hf h
      refine r_iconst (v := 0) hC dX5_triedExchange_22 rfl ?_
      exact r_zret hf hC rfl rfl (by decide) (by decide) dX5_triedExchange_23
set_option maxRecDepth 20000 in
theorem c_X5_triedExchange {l : Launch} (hl : l.stackTraces = false) {G : GG} {Z : ZZ} (hz : ZOk G Z) (hZ : ZM Z) (v1 : Int32) (v2 : Int32) (M : Mem)  (r : Int32) (M' : Mem) (hf : f_X5_triedExchange v1 v2 M = some (r, M')) : CN (QcI G Z r M') l G Z yX5_triedExchange cX5_triedExchange 3 (some .boolean) 4 [.ref (Z.1 0), .int v1, .int v2] M :=
  CN.of [(0, .ref (Z.1 0)), (1, .int v1), (2, .int v2)] hl (by decide +kernel) (Nat.le_of_ble_eq_true rfl) rfl (fun _ hC => w_X5_triedExchange hC hz hZ v1 v2 M  hf)
set_option maxRecDepth 20000 in
theorem w_X5_triedRemoval {X : XX} {G : GG} {Z : ZZ} (hC : Cx X G RX5 cX5_triedRemoval (some .boolean) 4 0 0 2) (hz : ZOk G Z) (hZ : ZM Z) (v1 : Int32) (M : Mem)  {r : Int32} {M' : Mem} (hf : f_X5_triedRemoval v1 M = some (r, M')) : V X G Z M 0 0 (QN X G (QcI G Z r M') 0 0) 0 [(0, .ref (Z.1 0)), (1, .int v1)] [] := by
  unfold f_X5_triedRemoval at hf
  refine r_aload_n hC dX5_triedRemoval_0 0 rfl ?_
  refine gf_X5_23 hC (z_1 hZ 0 (by decide) rfl) rfl dX5_triedRemoval_1 ?_
  refine r_iload_n hC dX5_triedRemoval_4 1 rfl ?_
  refine r_callVI [] (fun r M1 h => c_X3_hasBeat (cx_st hC) hz hZ 1 v1 _ (by decide) r M1 h) hf cs_X5_217 hC (z_S hZ (by decide)) (q0 := (RX3, TX3, 4)) rfl rfl [.int v1] rfl rfl rfl (by decide) (by decide) (Nat.le_of_ble_eq_true rfl) (by decide) (by decide) dX5_triedRemoval_5 (fun x1 M2 hf => ?_)
  refine r_if_eq 22 hC dX5_triedRemoval_8 (by decide) (fun h => ?_) (fun h => ?_)
  · have hf := if_T hf h
    refine r_iconst (v := 0) hC dX5_triedRemoval_22 rfl ?_
    exact r_zret hf hC rfl rfl (by decide) (by decide) dX5_triedRemoval_23
  · have hf := if_F hf h
    refine r_aload_n hC dX5_triedRemoval_11 0 rfl ?_
    refine gf_X5_23 hC (z_1 hZ 0 (by decide) rfl) rfl dX5_triedRemoval_12 ?_
    refine gf_X5_80 hC (z_S hZ (by decide)) rfl dX5_triedRemoval_15 ?_
    refine r_iconst (v := 1) hC dX5_triedRemoval_18 rfl ?_
    refine r_icmp_gt 24 hC dX5_triedRemoval_19 (by decide) (fun h => ?_) (fun h => ?_)
    · have hf := if_T hf h
      refine r_aload_n hC dX5_triedRemoval_24 0 rfl ?_
      refine gf_X5_23 hC (z_1 hZ 0 (by decide) rfl) rfl dX5_triedRemoval_25 ?_
      refine r_iload_n hC dX5_triedRemoval_28 1 rfl ?_
      refine r_callVV [] (fun r M1 h => c_X3_closeBeat (cx_st hC) hz hZ 1 v1 _ (by decide) r M1 h) hf cs_X5_160 hC (z_S hZ (by decide)) (q0 := (RX3, TX3, 4)) rfl rfl [.int v1] rfl rfl rfl (by decide) (by decide) (Nat.le_of_ble_eq_true rfl) (by decide) (by decide) dX5_triedRemoval_29 (fun x3 M4 hf => ?_)
      refine r_aload_n hC dX5_triedRemoval_32 0 rfl ?_
      refine gf_X5_23 hC (z_1 hZ 0 (by decide) rfl) rfl dX5_triedRemoval_33 ?_
      refine r_callVV [] (fun r M1 h => c_X3_dropLooseHolds (cx_st hC) hz hZ 1 _ (by decide) r M1 h) hf cs_X5_129 hC (z_S hZ (by decide)) (q0 := (RX3, TX3, 4)) rfl rfl [] rfl rfl rfl (by decide) (by decide) (Nat.le_of_ble_eq_true rfl) (by decide) (by decide) dX5_triedRemoval_36 (fun x5 M6 hf => ?_)
      refine r_iconst (v := 1) hC dX5_triedRemoval_39 rfl ?_
      exact r_zret hf hC rfl rfl (by decide) (by decide) dX5_triedRemoval_40
    · have hf := if_F hf h
      refine r_iconst (v := 0) hC dX5_triedRemoval_22 rfl ?_
      exact r_zret hf hC rfl rfl (by decide) (by decide) dX5_triedRemoval_23
set_option maxRecDepth 20000 in
theorem c_X5_triedRemoval {l : Launch} (hl : l.stackTraces = false) {G : GG} {Z : ZZ} (hz : ZOk G Z) (hZ : ZM Z) (v1 : Int32) (M : Mem)  (r : Int32) (M' : Mem) (hf : f_X5_triedRemoval v1 M = some (r, M')) : CN (QcI G Z r M') l G Z yX5_triedRemoval cX5_triedRemoval 2 (some .boolean) 4 [.ref (Z.1 0), .int v1] M :=
  CN.of [(0, .ref (Z.1 0)), (1, .int v1)] hl (by decide +kernel) (Nat.le_of_ble_eq_true rfl) rfl (fun _ hC => w_X5_triedRemoval hC hz hZ v1 M  hf)
set_option maxRecDepth 20000 in
theorem w_X5_triedSetting {X : XX} {G : GG} {Z : ZZ} (hC : Cx X G RX5 cX5_triedSetting (some .boolean) 2 0 0 3) (hz : ZOk G Z) (hZ : ZM Z) (v1 : Int32) (v2 : Int32) (M : Mem)  {r : Int32} {M' : Mem} (hf : f_X5_triedSetting v1 v2 M = some (r, M')) : V X G Z M 0 0 (QN X G (QcI G Z r M') 0 0) 0 [(0, .ref (Z.1 0)), (1, .int v1), (2, .int v2)] [] := by
  unfold f_X5_triedSetting at hf
  refine r_iload_n hC dX5_triedSetting_0 1 rfl ?_
  refine r_iload_n hC dX5_triedSetting_1 2 rfl ?_
  refine r_callSI [] (fun r M1 h => c_X3_allowsSetting (cx_st hC) hz hZ v1 v2 _  r M1 h) hf cs_X5_108 hC  rfl rfl (by decide) (by decide) (Nat.le_of_ble_eq_true rfl) (by decide) (by decide) dX5_triedSetting_2 (fun x1 M2 hf => ?_)
  refine r_if_ne 10 hC dX5_triedSetting_5 (by decide) (fun h => ?_) (fun h => ?_)
  · have hf := if_F hf h
    refine r_aload_n hC dX5_triedSetting_10 0 rfl ?_
    refine gf_X5_23 hC (z_1 hZ 0 (by decide) rfl) rfl dX5_triedSetting_11 ?_
    refine r_iload_n hC dX5_triedSetting_14 1 rfl ?_
    refine r_iload_n hC dX5_triedSetting_15 2 rfl ?_
    refine r_callVV [] (fun r M1 h => c_X3_changeSetting (cx_st hC) hz hZ 1 v1 v2 _ (by decide) r M1 h) hf cs_X5_115 hC (z_S hZ (by decide)) (q0 := (RX3, TX3, 4)) rfl rfl [.int v1, .int v2] rfl rfl rfl (by decide) (by decide) (Nat.le_of_ble_eq_true rfl) (by decide) (by decide) dX5_triedSetting_16 (fun x3 M4 hf => ?_)
    refine r_iconst (v := 1) hC dX5_triedSetting_19 rfl ?_
    exact r_zret hf hC rfl rfl (by decide) (by decide) dX5_triedSetting_20
  · have hf := if_T hf h
    refine r_iconst (v := 0) hC dX5_triedSetting_8 rfl ?_
    exact r_zret hf hC rfl rfl (by decide) (by decide) dX5_triedSetting_9
set_option maxRecDepth 20000 in
theorem c_X5_triedSetting {l : Launch} (hl : l.stackTraces = false) {G : GG} {Z : ZZ} (hz : ZOk G Z) (hZ : ZM Z) (v1 : Int32) (v2 : Int32) (M : Mem)  (r : Int32) (M' : Mem) (hf : f_X5_triedSetting v1 v2 M = some (r, M')) : CN (QcI G Z r M') l G Z yX5_triedSetting cX5_triedSetting 3 (some .boolean) 2 [.ref (Z.1 0), .int v1, .int v2] M :=
  CN.of [(0, .ref (Z.1 0)), (1, .int v1), (2, .int v2)] hl (by decide +kernel) (Nat.le_of_ble_eq_true rfl) rfl (fun _ hC => w_X5_triedSetting hC hz hZ v1 v2 M  hf)
set_option maxRecDepth 20000 in
theorem w_X5_succeeds {X : XX} {G : GG} {Z : ZZ} (hC : Cx X G RX5 cX5_succeeds (some .boolean) 6 0 0 7) (hz : ZOk G Z) (hZ : ZM Z) (v1 : Int32) (M : Mem)  {r : Int32} {M' : Mem} (hf : f_X5_succeeds v1 M = some (r, M')) : V X G Z M 0 0 (QN X G (QcI G Z r M') 0 0) 0 [(0, .ref (Z.1 0)), (1, .int v1)] [] := by
  unfold f_X5_succeeds at hf
  refine r_iload_n hC dX5_succeeds_0 1 rfl ?_
  refine r_sipush (v := 1000) hC dX5_succeeds_1 rfl ?_
  refine r_idiv hC dX5_succeeds_4 (by decide) ?_
  refine r_bipush (v := 10) hC dX5_succeeds_5 rfl ?_
  refine r_irem hC dX5_succeeds_7 (by decide) ?_
  refine r_istore_n (L' := [(2, .int ((v1 / 1000) - (v1 / 1000) / 10 * 10)), (0, .ref (Z.1 0)), (1, .int v1)]) hC dX5_succeeds_8 (by decide) rfl ?_
  refine r_iload_n hC dX5_succeeds_9 2 rfl ?_
  refine r_bipush (v := 100) hC dX5_succeeds_10 rfl ?_
  refine r_idiv hC dX5_succeeds_12 (by decide) ?_
  refine r_bipush (v := 10) hC dX5_succeeds_13 rfl ?_
  refine r_irem hC dX5_succeeds_15 (by decide) ?_
  refine r_istore_n (L' := [(3, .int ((v1 / 100) - (v1 / 100) / 10 * 10)), (2, .int ((v1 / 1000) - (v1 / 1000) / 10 * 10)), (0, .ref (Z.1 0)), (1, .int v1)]) hC dX5_succeeds_16 (by decide) rfl ?_
  refine r_iload_n hC dX5_succeeds_17 3 rfl ?_
  refine r_bipush (v := 10) hC dX5_succeeds_18 rfl ?_
  refine r_idiv hC dX5_succeeds_20 (by decide) ?_
  refine r_bipush (v := 10) hC dX5_succeeds_21 rfl ?_
  refine r_irem hC dX5_succeeds_23 (by decide) ?_
  refine r_istore (L' := [(4, .int ((v1 / 10) - (v1 / 10) / 10 * 10)), (3, .int ((v1 / 100) - (v1 / 100) / 10 * 10)), (2, .int ((v1 / 1000) - (v1 / 1000) / 10 * 10)), (0, .ref (Z.1 0)), (1, .int v1)]) hC dX5_succeeds_24 (by decide) rfl ?_
  refine r_iload_n hC dX5_succeeds_26 4 rfl ?_
  refine r_bipush (v := 10) hC dX5_succeeds_27 rfl ?_
  refine r_irem hC dX5_succeeds_29 (by decide) ?_
  refine r_istore (L' := [(5, .int (v1 - v1 / 10 * 10)), (4, .int ((v1 / 10) - (v1 / 10) / 10 * 10)), (3, .int ((v1 / 100) - (v1 / 100) / 10 * 10)), (2, .int ((v1 / 1000) - (v1 / 1000) / 10 * 10)), (0, .ref (Z.1 0)), (1, .int v1)]) hC dX5_succeeds_30 (by decide) rfl ?_
  refine r_iload_n hC dX5_succeeds_32 5 rfl ?_
  refine r_bipush (v := 100) hC dX5_succeeds_33 rfl ?_
  refine r_irem hC dX5_succeeds_35 (by decide) ?_
  refine r_istore (L' := [(6, .int (v1 - v1 / 100 * 100)), (5, .int (v1 - v1 / 10 * 10)), (4, .int ((v1 / 10) - (v1 / 10) / 10 * 10)), (3, .int ((v1 / 100) - (v1 / 100) / 10 * 10)), (2, .int ((v1 / 1000) - (v1 / 1000) / 10 * 10)), (0, .ref (Z.1 0)), (1, .int v1)]) hC dX5_succeeds_36 (by decide) rfl ?_
  refine r_iload_n hC dX5_succeeds_38 6 rfl ?_
  refine r_sipush (v := 10000) hC dX5_succeeds_39 rfl ?_
  refine r_idiv hC dX5_succeeds_42 (by decide) ?_
  by_cases e1 : (v1 / 10000) = 1
  · have hf := if_T hf e1
    refine r_swIn (c := 1) (tgt := 92) hC dX5_succeeds_43 e1 (by decide) (by decide) rfl (by decide) ?_
    refine r_iload_n hC dX5_succeeds_92 3 rfl ?_
    refine r_if_ne 110 hC dX5_succeeds_93 (by decide) (fun h => ?_) (fun h => ?_)
    · have hf := if_F hf h
      refine r_iconst (v := 0) hC dX5_succeeds_110 rfl ?_
      exact r_zret hf hC rfl rfl (by decide) (by decide) dX5_succeeds_111
    · have hf := if_T hf h
      refine r_aload_n hC dX5_succeeds_96 5 rfl ?_
      refine r_iload_n hC dX5_succeeds_97 4 rfl ?_
      refine r_iload hC dX5_succeeds_98 0 rfl ?_
      refine r_callVI [] (fun r M1 h => c_X5_triedSetting (cx_st hC) hz hZ ((v1 / 1000) - (v1 / 1000) / 10 * 10) (v1 - v1 / 100 * 100) _  r M1 h) hf cs_X5_220 hC (z_1 hZ 0 (by decide) rfl) (q0 := (RX5, TX5, 7)) rfl rfl [.int ((v1 / 1000) - (v1 / 1000) / 10 * 10), .int (v1 - v1 / 100 * 100)] rfl rfl rfl (by decide) (by decide) (Nat.le_of_ble_eq_true rfl) (by decide) (by decide) dX5_succeeds_100 (fun x1 M2 hf => ?_)
      refine r_if_eq 110 hC dX5_succeeds_103 (by decide) (fun h => ?_) (fun h => ?_)
      · have hf := if_T hf h
        refine r_iconst (v := 0) hC dX5_succeeds_110 rfl ?_
        exact r_zret hf hC rfl rfl (by decide) (by decide) dX5_succeeds_111
      · have hf := if_F hf h
        refine r_iconst (v := 1) hC dX5_succeeds_106 rfl ?_
        refine r_goto 111 hC dX5_succeeds_107 (by decide) ?_
        exact r_zret hf hC rfl rfl (by decide) (by decide) dX5_succeeds_111
  have hf := if_F hf e1
  by_cases e2 : (v1 / 10000) = 2
  · have hf := if_T hf e2
    refine r_swIn (c := 2) (tgt := 112) hC dX5_succeeds_43 e2 (by decide) (by decide) rfl (by decide) ?_
    refine r_iload hC dX5_succeeds_112 0 rfl ?_
    refine r_callSI [] (fun r M1 h => c_X3_isPitch (cx_st hC) hz hZ (v1 - v1 / 100 * 100) _  r M1 h) hf cs_X5_118 hC  rfl rfl (by decide) (by decide) (Nat.le_of_ble_eq_true rfl) (by decide) (by decide) dX5_succeeds_114 (fun x3 M4 hf => ?_)
    refine r_if_eq 135 hC dX5_succeeds_117 (by decide) (fun h => ?_) (fun h => ?_)
    · have hf := if_T hf h
      refine r_iconst (v := 0) hC dX5_succeeds_135 rfl ?_
      exact r_zret hf hC rfl rfl (by decide) (by decide) dX5_succeeds_136
    · have hf := if_F hf h
      refine r_aload_n hC dX5_succeeds_120 5 rfl ?_
      refine r_iload_n hC dX5_succeeds_121 4 rfl ?_
      refine r_iload_n hC dX5_succeeds_122 3 rfl ?_
      refine r_iload hC dX5_succeeds_123 0 rfl ?_
      refine r_callVI [] (fun r M1 h => c_X5_triedCell (cx_st hC) hz hZ ((v1 / 1000) - (v1 / 1000) / 10 * 10) ((v1 / 100) - (v1 / 100) / 10 * 10) (v1 - v1 / 100 * 100) _  r M1 h) hf cs_X5_223 hC (z_1 hZ 0 (by decide) rfl) (q0 := (RX5, TX5, 7)) rfl rfl [.int ((v1 / 1000) - (v1 / 1000) / 10 * 10), .int ((v1 / 100) - (v1 / 100) / 10 * 10), .int (v1 - v1 / 100 * 100)] rfl rfl rfl (by decide) (by decide) (Nat.le_of_ble_eq_true rfl) (by decide) (by decide) dX5_succeeds_125 (fun x5 M6 hf => ?_)
      refine r_if_eq 135 hC dX5_succeeds_128 (by decide) (fun h => ?_) (fun h => ?_)
      · have hf := if_T hf h
        refine r_iconst (v := 0) hC dX5_succeeds_135 rfl ?_
        exact r_zret hf hC rfl rfl (by decide) (by decide) dX5_succeeds_136
      · have hf := if_F hf h
        refine r_iconst (v := 1) hC dX5_succeeds_131 rfl ?_
        refine r_goto 136 hC dX5_succeeds_132 (by decide) ?_
        exact r_zret hf hC rfl rfl (by decide) (by decide) dX5_succeeds_136
  have hf := if_F hf e2
  by_cases e3 : (v1 / 10000) = 3
  · have hf := if_T hf e3
    refine r_swIn (c := 3) (tgt := 137) hC dX5_succeeds_43 e3 (by decide) (by decide) rfl (by decide) ?_
    refine r_iload hC dX5_succeeds_137 0 rfl ?_
    refine r_if_ne 157 hC dX5_succeeds_139 (by decide) (fun h => ?_) (fun h => ?_)
    · have hf := if_F hf h
      refine r_iconst (v := 0) hC dX5_succeeds_157 rfl ?_
      exact r_zret hf hC rfl rfl (by decide) (by decide) dX5_succeeds_158
    · have hf := if_T hf h
      refine r_aload_n hC dX5_succeeds_142 5 rfl ?_
      refine r_iload_n hC dX5_succeeds_143 4 rfl ?_
      refine r_iload_n hC dX5_succeeds_144 3 rfl ?_
      refine r_bipush (v := (-9)) hC dX5_succeeds_145 rfl ?_
      refine r_callVI [] (fun r M1 h => c_X5_triedCell (cx_st hC) hz hZ ((v1 / 1000) - (v1 / 1000) / 10 * 10) ((v1 / 100) - (v1 / 100) / 10 * 10) (-9) _  r M1 h) hf cs_X5_223 hC (z_1 hZ 0 (by decide) rfl) (q0 := (RX5, TX5, 7)) rfl rfl [.int ((v1 / 1000) - (v1 / 1000) / 10 * 10), .int ((v1 / 100) - (v1 / 100) / 10 * 10), .int (-9)] rfl rfl rfl (by decide) (by decide) (Nat.le_of_ble_eq_true rfl) (by decide) (by decide) dX5_succeeds_147 (fun x7 M8 hf => ?_)
      refine r_if_eq 157 hC dX5_succeeds_150 (by decide) (fun h => ?_) (fun h => ?_)
      · have hf := if_T hf h
        refine r_iconst (v := 0) hC dX5_succeeds_157 rfl ?_
        exact r_zret hf hC rfl rfl (by decide) (by decide) dX5_succeeds_158
      · have hf := if_F hf h
        refine r_iconst (v := 1) hC dX5_succeeds_153 rfl ?_
        refine r_goto 158 hC dX5_succeeds_154 (by decide) ?_
        exact r_zret hf hC rfl rfl (by decide) (by decide) dX5_succeeds_158
  have hf := if_F hf e3
  by_cases e4 : (v1 / 10000) = 4
  · have hf := if_T hf e4
    refine r_swIn (c := 4) (tgt := 159) hC dX5_succeeds_43 e4 (by decide) (by decide) rfl (by decide) ?_
    refine r_iload hC dX5_succeeds_159 0 rfl ?_
    refine r_if_ne 191 hC dX5_succeeds_161 (by decide) (fun h => ?_) (fun h => ?_)
    · have hf := if_F hf h
      refine r_iconst (v := 0) hC dX5_succeeds_191 rfl ?_
      exact r_zret hf hC rfl rfl (by decide) (by decide) dX5_succeeds_192
    · have hf := if_T hf h
      refine r_aload_n hC dX5_succeeds_164 5 rfl ?_
      refine gf_X5_23 hC (z_1 hZ 0 (by decide) rfl) rfl dX5_succeeds_165 ?_
      refine r_iload_n hC dX5_succeeds_168 4 rfl ?_
      refine r_iload_n hC dX5_succeeds_169 3 rfl ?_
      refine r_callVI [] (fun r M1 h => c_X3_allowsHold (cx_st hC) hz hZ 1 ((v1 / 1000) - (v1 / 1000) / 10 * 10) ((v1 / 100) - (v1 / 100) / 10 * 10) _ (by decide) r M1 h) hf cs_X5_122 hC (z_S hZ (by decide)) (q0 := (RX3, TX3, 4)) rfl rfl [.int ((v1 / 1000) - (v1 / 1000) / 10 * 10), .int ((v1 / 100) - (v1 / 100) / 10 * 10)] rfl rfl rfl (by decide) (by decide) (Nat.le_of_ble_eq_true rfl) (by decide) (by decide) dX5_succeeds_170 (fun x9 M10 hf => ?_)
      refine r_if_eq 191 hC dX5_succeeds_173 (by decide) (fun h => ?_) (fun h => ?_)
      · have hf := if_T hf h
        refine r_iconst (v := 0) hC dX5_succeeds_191 rfl ?_
        exact r_zret hf hC rfl rfl (by decide) (by decide) dX5_succeeds_192
      · have hf := if_F hf h
        refine r_aload_n hC dX5_succeeds_176 5 rfl ?_
        refine r_iload_n hC dX5_succeeds_177 4 rfl ?_
        refine r_iload_n hC dX5_succeeds_178 3 rfl ?_
        refine r_bipush (v := 99) hC dX5_succeeds_179 rfl ?_
        refine r_callVI [] (fun r M1 h => c_X5_triedCell (cx_st hC) hz hZ ((v1 / 1000) - (v1 / 1000) / 10 * 10) ((v1 / 100) - (v1 / 100) / 10 * 10) 99 _  r M1 h) hf cs_X5_223 hC (z_1 hZ 0 (by decide) rfl) (q0 := (RX5, TX5, 7)) rfl rfl [.int ((v1 / 1000) - (v1 / 1000) / 10 * 10), .int ((v1 / 100) - (v1 / 100) / 10 * 10), .int 99] rfl rfl rfl (by decide) (by decide) (Nat.le_of_ble_eq_true rfl) (by decide) (by decide) dX5_succeeds_181 (fun x11 M12 hf => ?_)
        refine r_if_eq 191 hC dX5_succeeds_184 (by decide) (fun h => ?_) (fun h => ?_)
        · have hf := if_T hf h
          refine r_iconst (v := 0) hC dX5_succeeds_191 rfl ?_
          exact r_zret hf hC rfl rfl (by decide) (by decide) dX5_succeeds_192
        · have hf := if_F hf h
          refine r_iconst (v := 1) hC dX5_succeeds_187 rfl ?_
          refine r_goto 192 hC dX5_succeeds_188 (by decide) ?_
          exact r_zret hf hC rfl rfl (by decide) (by decide) dX5_succeeds_192
  have hf := if_F hf e4
  by_cases e5 : (v1 / 10000) = 5
  · have hf := if_T hf e5
    refine r_swIn (c := 5) (tgt := 193) hC dX5_succeeds_43 e5 (by decide) (by decide) rfl (by decide) ?_
    refine r_iload_n hC dX5_succeeds_193 4 rfl ?_
    refine r_if_ne 216 hC dX5_succeeds_194 (by decide) (fun h => ?_) (fun h => ?_)
    · have hf := if_F hf h
      refine r_iconst (v := 0) hC dX5_succeeds_216 rfl ?_
      exact r_zret hf hC rfl rfl (by decide) (by decide) dX5_succeeds_217
    · have hf := if_T hf h
      refine r_iload hC dX5_succeeds_197 1 rfl ?_
      refine r_if_ne 216 hC dX5_succeeds_199 (by decide) (fun h => ?_) (fun h => ?_)
      · have hf := if_F hf h
        refine r_iconst (v := 0) hC dX5_succeeds_216 rfl ?_
        exact r_zret hf hC rfl rfl (by decide) (by decide) dX5_succeeds_217
      · have hf := if_T hf h
        refine r_aload_n hC dX5_succeeds_202 5 rfl ?_
        refine r_iload_n hC dX5_succeeds_203 3 rfl ?_
        refine r_iload hC dX5_succeeds_204 2 rfl ?_
        refine r_callVI [] (fun r M1 h => c_X5_triedExchange (cx_st hC) hz hZ ((v1 / 100) - (v1 / 100) / 10 * 10) ((v1 / 10) - (v1 / 10) / 10 * 10) _  r M1 h) hf cs_X5_227 hC (z_1 hZ 0 (by decide) rfl) (q0 := (RX5, TX5, 7)) rfl rfl [.int ((v1 / 100) - (v1 / 100) / 10 * 10), .int ((v1 / 10) - (v1 / 10) / 10 * 10)] rfl rfl rfl (by decide) (by decide) (Nat.le_of_ble_eq_true rfl) (by decide) (by decide) dX5_succeeds_206 (fun x13 M14 hf => ?_)
        refine r_if_eq 216 hC dX5_succeeds_209 (by decide) (fun h => ?_) (fun h => ?_)
        · have hf := if_T hf h
          refine r_iconst (v := 0) hC dX5_succeeds_216 rfl ?_
          exact r_zret hf hC rfl rfl (by decide) (by decide) dX5_succeeds_217
        · have hf := if_F hf h
          refine r_iconst (v := 1) hC dX5_succeeds_212 rfl ?_
          refine r_goto 217 hC dX5_succeeds_213 (by decide) ?_
          exact r_zret hf hC rfl rfl (by decide) (by decide) dX5_succeeds_217
  have hf := if_F hf e5
  by_cases e6 : (v1 / 10000) = 6
  · have hf := if_T hf e6
    refine r_swIn (c := 6) (tgt := 218) hC dX5_succeeds_43 e6 (by decide) (by decide) rfl (by decide) ?_
    refine r_iload hC dX5_succeeds_218 0 rfl ?_
    refine r_if_ne 240 hC dX5_succeeds_220 (by decide) (fun h => ?_) (fun h => ?_)
    · have hf := if_F hf h
      refine r_iconst (v := 0) hC dX5_succeeds_240 rfl ?_
      exact r_zret hf hC rfl rfl (by decide) (by decide) dX5_succeeds_241
    · have hf := if_T hf h
      refine r_aload_n hC dX5_succeeds_223 5 rfl ?_
      refine r_bipush (v := 10) hC dX5_succeeds_224 rfl ?_
      refine r_iload_n hC dX5_succeeds_226 4 rfl ?_
      refine r_imul hC dX5_succeeds_227 ?_
      refine r_iload_n hC dX5_succeeds_228 3 rfl ?_
      refine r_iadd hC dX5_succeeds_229 ?_
      refine r_callVI [] (fun r M1 h => c_X5_triedRemoval (cx_st hC) hz hZ ((10 * ((v1 / 1000) - (v1 / 1000) / 10 * 10)) + ((v1 / 100) - (v1 / 100) / 10 * 10)) _  r M1 h) hf cs_X5_230 hC (z_1 hZ 0 (by decide) rfl) (q0 := (RX5, TX5, 7)) rfl rfl [.int ((10 * ((v1 / 1000) - (v1 / 1000) / 10 * 10)) + ((v1 / 100) - (v1 / 100) / 10 * 10))] rfl rfl rfl (by decide) (by decide) (Nat.le_of_ble_eq_true rfl) (by decide) (by decide) dX5_succeeds_230 (fun x15 M16 hf => ?_)
      refine r_if_eq 240 hC dX5_succeeds_233 (by decide) (fun h => ?_) (fun h => ?_)
      · have hf := if_T hf h
        refine r_iconst (v := 0) hC dX5_succeeds_240 rfl ?_
        exact r_zret hf hC rfl rfl (by decide) (by decide) dX5_succeeds_241
      · have hf := if_F hf h
        refine r_iconst (v := 1) hC dX5_succeeds_236 rfl ?_
        refine r_goto 241 hC dX5_succeeds_237 (by decide) ?_
        exact r_zret hf hC rfl rfl (by decide) (by decide) dX5_succeeds_241
  have hf := if_F hf e6
  by_cases e7 : (v1 / 10000) = 7
  · have hf := if_T hf e7
    refine r_swIn (c := 7) (tgt := 242) hC dX5_succeeds_43 e7 (by decide) (by decide) rfl (by decide) ?_
    refine r_iload_n hC dX5_succeeds_242 4 rfl ?_
    refine r_bipush (v := 7) hC dX5_succeeds_243 rfl ?_
    refine r_icmp_gt 268 hC dX5_succeeds_245 (by decide) (fun h => ?_) (fun h => ?_)
    · have hf := if_T hf h
      refine r_iconst (v := 0) hC dX5_succeeds_268 rfl ?_
      exact r_zret hf hC rfl rfl (by decide) (by decide) dX5_succeeds_269
    · have hf := if_F hf h
      refine r_aload_n hC dX5_succeeds_248 5 rfl ?_
      refine gf_X5_29 hC (z_1 hZ 0 (by decide) rfl) rfl dX5_succeeds_249 ?_
      refine r_iload_n hC dX5_succeeds_252 4 rfl ?_
      refine r_callVI [] (fun r M1 h => c_X2_numberOfWhole (cx_st hC) hz hZ ((v1 / 1000) - (v1 / 1000) / 10 * 10) _  r M1 h) hf cs_X5_185 hC (z_1 hZ 7 (by decide) rfl) (q0 := (RX2, TX2, 5)) rfl rfl [.int ((v1 / 1000) - (v1 / 1000) / 10 * 10)] rfl rfl rfl (by decide) (by decide) (Nat.le_of_ble_eq_true rfl) (by decide) (by decide) dX5_succeeds_253 (fun x17 M18 hf => ?_)
      refine r_iload_n hC dX5_succeeds_256 6 rfl ?_
      refine r_sipush (v := 1000) hC dX5_succeeds_257 rfl ?_
      refine r_irem hC dX5_succeeds_260 (by decide) ?_
      refine r_icmp_ne 268 hC dX5_succeeds_261 (by decide) (fun h => ?_) (fun h => ?_)
      · have hf := if_F hf h
        refine r_iconst (v := 0) hC dX5_succeeds_268 rfl ?_
        exact r_zret hf hC rfl rfl (by decide) (by decide) dX5_succeeds_269
      · have hf := if_T hf h
        refine r_iconst (v := 1) hC dX5_succeeds_264 rfl ?_
        refine r_goto 269 hC dX5_succeeds_265 (by decide) ?_
        exact r_zret hf hC rfl rfl (by decide) (by decide) dX5_succeeds_269
  have hf := if_F hf e7
  by_cases e8 : (v1 / 10000) = 8
  · have hf := if_T hf e8
    refine r_swIn (c := 8) (tgt := 270) hC dX5_succeeds_43 e8 (by decide) (by decide) rfl (by decide) ?_
    refine r_iload hC dX5_succeeds_270 2 rfl ?_
    refine r_if_ne 306 hC dX5_succeeds_272 (by decide) (fun h => ?_) (fun h => ?_)
    · have hf := if_F hf h
      refine r_iconst (v := 0) hC dX5_succeeds_306 rfl ?_
      exact r_zret hf hC rfl rfl (by decide) (by decide) dX5_succeeds_307
    · have hf := if_T hf h
      refine r_aload_n hC dX5_succeeds_275 5 rfl ?_
      refine gf_X5_23 hC (z_1 hZ 0 (by decide) rfl) rfl dX5_succeeds_276 ?_
      refine r_iload_n hC dX5_succeeds_279 4 rfl ?_
      refine r_iload_n hC dX5_succeeds_280 3 rfl ?_
      refine r_callVI [] (fun r M1 h => c_X3_hasCell (cx_st hC) hz hZ 1 ((v1 / 1000) - (v1 / 1000) / 10 * 10) ((v1 / 100) - (v1 / 100) / 10 * 10) _ (by decide) r M1 h) hf cs_X5_233 hC (z_S hZ (by decide)) (q0 := (RX3, TX3, 4)) rfl rfl [.int ((v1 / 1000) - (v1 / 1000) / 10 * 10), .int ((v1 / 100) - (v1 / 100) / 10 * 10)] rfl rfl rfl (by decide) (by decide) (Nat.le_of_ble_eq_true rfl) (by decide) (by decide) dX5_succeeds_281 (fun x19 M20 hf => ?_)
      refine r_if_eq 306 hC dX5_succeeds_284 (by decide) (fun h => ?_) (fun h => ?_)
      · have hf := if_T hf h
        refine r_iconst (v := 0) hC dX5_succeeds_306 rfl ?_
        exact r_zret hf hC rfl rfl (by decide) (by decide) dX5_succeeds_307
      · have hf := if_F hf h
        refine r_aload_n hC dX5_succeeds_287 5 rfl ?_
        refine gf_X5_29 hC (z_1 hZ 0 (by decide) rfl) rfl dX5_succeeds_288 ?_
        refine r_iload_n hC dX5_succeeds_291 4 rfl ?_
        refine r_iload_n hC dX5_succeeds_292 3 rfl ?_
        refine r_iconst (v := 0) hC dX5_succeeds_293 rfl ?_
        refine r_callVI [] (fun r M1 h => c_X2_numberOfNote (cx_st hC) hz hZ ((v1 / 1000) - (v1 / 1000) / 10 * 10) ((v1 / 100) - (v1 / 100) / 10 * 10) 0 _  r M1 h) hf cs_X5_175 hC (z_1 hZ 7 (by decide) rfl) (q0 := (RX2, TX2, 5)) rfl rfl [.int ((v1 / 1000) - (v1 / 1000) / 10 * 10), .int ((v1 / 100) - (v1 / 100) / 10 * 10), .int 0] rfl rfl rfl (by decide) (by decide) (Nat.le_of_ble_eq_true rfl) (by decide) (by decide) dX5_succeeds_294 (fun x21 M22 hf => ?_)
        refine r_iload hC dX5_succeeds_297 1 rfl ?_
        refine r_icmp_ne 306 hC dX5_succeeds_299 (by decide) (fun h => ?_) (fun h => ?_)
        · have hf := if_F hf h
          refine r_iconst (v := 0) hC dX5_succeeds_306 rfl ?_
          exact r_zret hf hC rfl rfl (by decide) (by decide) dX5_succeeds_307
        · have hf := if_T hf h
          refine r_iconst (v := 1) hC dX5_succeeds_302 rfl ?_
          refine r_goto 307 hC dX5_succeeds_303 (by decide) ?_
          exact r_zret hf hC rfl rfl (by decide) (by decide) dX5_succeeds_307
  have hf := if_F hf e8
  by_cases e9 : (v1 / 10000) = 9
  · have hf := if_T hf e9
    refine r_swIn (c := 9) (tgt := 308) hC dX5_succeeds_43 e9 (by decide) (by decide) rfl (by decide) ?_
    refine r_iload hC dX5_succeeds_308 2 rfl ?_
    refine r_if_ne 344 hC dX5_succeeds_310 (by decide) (fun h => ?_) (fun h => ?_)
    · have hf := if_F hf h
      refine r_iconst (v := 0) hC dX5_succeeds_344 rfl ?_
      exact r_zret hf hC rfl rfl (by decide) (by decide) dX5_succeeds_345
    · have hf := if_T hf h
      refine r_aload_n hC dX5_succeeds_313 5 rfl ?_
      refine gf_X5_23 hC (z_1 hZ 0 (by decide) rfl) rfl dX5_succeeds_314 ?_
      refine r_iload_n hC dX5_succeeds_317 4 rfl ?_
      refine r_iload_n hC dX5_succeeds_318 3 rfl ?_
      refine r_callVI [] (fun r M1 h => c_X3_hasCell (cx_st hC) hz hZ 1 ((v1 / 1000) - (v1 / 1000) / 10 * 10) ((v1 / 100) - (v1 / 100) / 10 * 10) _ (by decide) r M1 h) hf cs_X5_233 hC (z_S hZ (by decide)) (q0 := (RX3, TX3, 4)) rfl rfl [.int ((v1 / 1000) - (v1 / 1000) / 10 * 10), .int ((v1 / 100) - (v1 / 100) / 10 * 10)] rfl rfl rfl (by decide) (by decide) (Nat.le_of_ble_eq_true rfl) (by decide) (by decide) dX5_succeeds_319 (fun x23 M24 hf => ?_)
      refine r_if_eq 344 hC dX5_succeeds_322 (by decide) (fun h => ?_) (fun h => ?_)
      · have hf := if_T hf h
        refine r_iconst (v := 0) hC dX5_succeeds_344 rfl ?_
        exact r_zret hf hC rfl rfl (by decide) (by decide) dX5_succeeds_345
      · have hf := if_F hf h
        refine r_aload_n hC dX5_succeeds_325 5 rfl ?_
        refine gf_X5_29 hC (z_1 hZ 0 (by decide) rfl) rfl dX5_succeeds_326 ?_
        refine r_iload_n hC dX5_succeeds_329 4 rfl ?_
        refine r_iload_n hC dX5_succeeds_330 3 rfl ?_
        refine r_iconst (v := 1) hC dX5_succeeds_331 rfl ?_
        refine r_callVI [] (fun r M1 h => c_X2_numberOfNote (cx_st hC) hz hZ ((v1 / 1000) - (v1 / 1000) / 10 * 10) ((v1 / 100) - (v1 / 100) / 10 * 10) 1 _  r M1 h) hf cs_X5_175 hC (z_1 hZ 7 (by decide) rfl) (q0 := (RX2, TX2, 5)) rfl rfl [.int ((v1 / 1000) - (v1 / 1000) / 10 * 10), .int ((v1 / 100) - (v1 / 100) / 10 * 10), .int 1] rfl rfl rfl (by decide) (by decide) (Nat.le_of_ble_eq_true rfl) (by decide) (by decide) dX5_succeeds_332 (fun x25 M26 hf => ?_)
        refine r_iload hC dX5_succeeds_335 1 rfl ?_
        refine r_icmp_ne 344 hC dX5_succeeds_337 (by decide) (fun h => ?_) (fun h => ?_)
        · have hf := if_F hf h
          refine r_iconst (v := 0) hC dX5_succeeds_344 rfl ?_
          exact r_zret hf hC rfl rfl (by decide) (by decide) dX5_succeeds_345
        · have hf := if_T hf h
          refine r_iconst (v := 1) hC dX5_succeeds_340 rfl ?_
          refine r_goto 345 hC dX5_succeeds_341 (by decide) ?_
          exact r_zret hf hC rfl rfl (by decide) (by decide) dX5_succeeds_345
  have hf := if_F hf e9
  refine r_swOut (tgt := 346) hC dX5_succeeds_43 (sw_out 1 9 (by decide) (by decide) (fun c hc1 hc2 => ?_)) (by decide) ?_
  · have : c = 1 ∨ c = 2 ∨ c = 3 ∨ c = 4 ∨ c = 5 ∨ c = 6 ∨ c = 7 ∨ c = 8 ∨ c = 9 := by omega
    rcases this with rfl | rfl | rfl | rfl | rfl | rfl | rfl | rfl | rfl
    · exact e1
    · exact e2
    · exact e3
    · exact e4
    · exact e5
    · exact e6
    · exact e7
    · exact e8
    · exact e9
  refine r_iconst (v := 0) hC dX5_succeeds_346 rfl ?_
  exact r_zret hf hC rfl rfl (by decide) (by decide) dX5_succeeds_347
set_option maxRecDepth 20000 in
theorem c_X5_succeeds {l : Launch} (hl : l.stackTraces = false) {G : GG} {Z : ZZ} (hz : ZOk G Z) (hZ : ZM Z) (v1 : Int32) (M : Mem)  (r : Int32) (M' : Mem) (hf : f_X5_succeeds v1 M = some (r, M')) : CN (QcI G Z r M') l G Z yX5_succeeds cX5_succeeds 7 (some .boolean) 6 [.ref (Z.1 0), .int v1] M :=
  CN.of [(0, .ref (Z.1 0)), (1, .int v1)] hl (by decide +kernel) (Nat.le_of_ble_eq_true rfl) rfl (fun _ hC => w_X5_succeeds hC hz hZ v1 M  hf)
set_option maxRecDepth 20000 in
theorem w_X5_runScript_b48 {X : XX} {G : GG} {Z : ZZ} {r : Except Nat Int32} {M' : Mem} (hC : Cx X G RX5 cX5_runScript (some .int) 7 1 6 5) (hz : ZOk G Z) (hZ : ZM Z) (hno : ∀ x ∈ (xc X).exceptionTable.toList, False) (v1 : Int32) (w2 : Int64) (k48 : Int32 → Mem → Option (Except Nat Int32 × Mem)) (hk48 : ∀ (u4 : Int32) (M : Mem), k48 u4 M = some (r, M') → V X G Z M 0 0 (QT X G (QcTI G Z r M') (XcT G Z r M') 1 6) 48 [(0, .ref (Z.1 0)), (1, .int v1), (2, .long w2), (4, .int u4)] []) (v4 : Int32) (M : Mem) (hf : f_X5_runScript_b48 v1 w2 k48 v4 M = some (r, M')) : V X G Z M 0 0 (QT X G (QcTI G Z r M') (XcT G Z r M') 1 6) 48 [(0, .ref (Z.1 0)), (1, .int v1), (2, .long w2), (4, .int v4)] [] := by
  unfold f_X5_runScript_b48 at hf
  refine r_iload hC dX5_runScript_48 3 rfl ?_
  refine r_iload_n hC dX5_runScript_50 1 rfl ?_
  refine r_icmp_ge 96 hC dX5_runScript_51 (by decide) (fun h => ?_) (fun h => ?_)
  · have hf := if_T hf h
    refine r_bipush (v := (-9)) hC dX5_runScript_96 rfl ?_
    exact r_iretT hf hC (by decide) (by decide) dX5_runScript_98
  · have hf := if_F hf h
    refine r_aload_n hC dX5_runScript_54 0 rfl ?_
    refine gf_X5_29 hC (z_1 hZ 0 (by decide) rfl) rfl dX5_runScript_55 ?_
    refine r_aload_n hC dX5_runScript_58 0 rfl ?_
    refine gf_X5_23 hC (z_1 hZ 0 (by decide) rfl) rfl dX5_runScript_59 ?_
    refine r_callVV [] (fun r M1 h => c_X2_make (cx_st hC) hz hZ 1 _ (by decide) r M1 h) hf cs_X5_172 hC (z_1 hZ 7 (by decide) rfl) (q0 := (RX2, TX2, 5)) rfl rfl [.ref (Z.1 (iSt 1))] rfl rfl rfl (by decide) (by decide) (Nat.le_of_ble_eq_true rfl) (by decide) (by decide) dX5_runScript_62 (fun x5 M6 hf => ?_)
    refine r_aload_n hC dX5_runScript_65 0 rfl ?_
    refine r_lload_n hC dX5_runScript_66 2 rfl ?_
    refine r_iload_n hC dX5_runScript_67 1 rfl ?_
    refine r_iconst (v := 1) hC dX5_runScript_68 rfl ?_
    refine r_isub hC dX5_runScript_69 ?_
    refine r_iload hC dX5_runScript_70 3 rfl ?_
    refine r_isub hC dX5_runScript_72 ?_
    refine r_callSL [.ref (Z.1 0)] (fun r M1 h => c_X5_groupFromEnd (cx_st hC) hz hZ w2 ((v1 - 1) - v4) _  r M1 h) hf cs_X5_195 hC  rfl rfl (by decide) (by decide) (Nat.le_of_ble_eq_true rfl) (by decide) (by decide) dX5_runScript_73 (fun x7 M8 hf => ?_)
    refine r_ldc2 (v := 100000) hC dX5_runScript_76 kw_X5_199 ?_
    refine r_lrem hC dX5_runScript_79 (by decide) ?_
    refine r_l2i hC dX5_runScript_80 ?_
    refine r_callVI [] (fun r M1 h => c_X5_succeeds (cx_st hC) hz hZ (Int64.toInt32 (x7 - x7 / 100000 * 100000)) _  r M1 h) hf cs_X5_201 hC (z_1 hZ 0 (by decide) rfl) (q0 := (RX5, TX5, 7)) rfl rfl [.int (Int64.toInt32 (x7 - x7 / 100000 * 100000))] rfl rfl rfl (by decide) (by decide) (Nat.le_of_ble_eq_true rfl) (by decide) (by decide) dX5_runScript_81 (fun x9 M10 hf => ?_)
    refine r_if_ne 90 hC dX5_runScript_84 (by decide) (fun h => ?_) (fun h => ?_)
    · have hf := if_F hf h
      refine r_iinc (v := v4 + 1) (L' := [(4, .int (v4 + 1)), (0, .ref (Z.1 0)), (1, .int v1), (2, .long w2)]) hC dX5_runScript_90 3 rfl rfl (by decide) rfl ?_
      refine r_goto 48 hC dX5_runScript_93 (by decide) ?_
      refine r_L [1, 2, 3, 0] rfl ?_
      exact hk48 _ _ hf
    · have hf := if_T hf h
      refine r_iload hC dX5_runScript_87 3 rfl ?_
      exact r_iretT hf hC (by decide) (by decide) dX5_runScript_89
set_option maxRecDepth 20000 in
theorem w_X5_runScript {X : XX} {G : GG} {Z : ZZ} (hC : Cx X G RX5 cX5_runScript (some .int) 7 1 6 5) (hz : ZOk G Z) (hZ : ZM Z) (hno : ∀ x ∈ (xc X).exceptionTable.toList, False) (v1 : Int32) (w2 : Int64) (M : Mem)  {r : Except Nat Int32} {M' : Mem} (hf : f_X5_runScript v1 w2 M = some (r, M')) : V X G Z M 0 0 (QT X G (QcTI G Z r M') (XcT G Z r M') 1 6) 0 [(0, .ref (Z.1 0)), (1, .int v1), (2, .long w2)] [] := by
  unfold f_X5_runScript at hf
  refine r_iload_n hC dX5_runScript_0 1 rfl ?_
  refine r_iconst (v := 1) hC dX5_runScript_1 rfl ?_
  refine r_icmp_lt 26 hC dX5_runScript_2 (by decide) (fun h => ?_) (fun h => ?_)
  · have hf := if_T hf h
    exact r_throw hf hC hno th_iae dX5_runScript_26 dX5_runScript_29 dX5_runScript_30 dX5_runScript_33 (by decide) (by decide) (by decide) (by decide)
  · have hf := if_F hf h
    refine r_iload_n hC dX5_runScript_5 1 rfl ?_
    refine r_iconst (v := 3) hC dX5_runScript_6 rfl ?_
    refine r_icmp_gt 26 hC dX5_runScript_7 (by decide) (fun h => ?_) (fun h => ?_)
    · have hf := if_T hf h
      exact r_throw hf hC hno th_iae dX5_runScript_26 dX5_runScript_29 dX5_runScript_30 dX5_runScript_33 (by decide) (by decide) (by decide) (by decide)
    · have hf := if_F hf h
      refine r_lload_n hC dX5_runScript_10 2 rfl ?_
      refine r_lconst (v := 0) hC dX5_runScript_11 rfl ?_
      refine r_lcmp hC dX5_runScript_12 ?_
      refine r_if_lt 26 hC dX5_runScript_13 (by decide) (fun h => ?_) (fun h => ?_)
      · have hf := if_T hf h
        exact r_throw hf hC hno th_iae dX5_runScript_26 dX5_runScript_29 dX5_runScript_30 dX5_runScript_33 (by decide) (by decide) (by decide) (by decide)
      · have hf := if_F hf h
        refine r_lload_n hC dX5_runScript_16 2 rfl ?_
        refine r_iload_n hC dX5_runScript_17 1 rfl ?_
        refine r_callSL [] (fun r M1 h => c_X5_groupFromEnd (cx_st hC) hz hZ w2 v1 _  r M1 h) hf cs_X5_195 hC  rfl rfl (by decide) (by decide) (Nat.le_of_ble_eq_true rfl) (by decide) (by decide) dX5_runScript_18 (fun x1 M2 hf => ?_)
        refine r_lconst (v := 0) hC dX5_runScript_21 rfl ?_
        refine r_lcmp hC dX5_runScript_22 ?_
        refine r_if_eq 34 hC dX5_runScript_23 (by decide) (fun h => ?_) (fun h => ?_)
        · have hf := if_T hf h
          refine r_aload_n hC dX5_runScript_34 0 rfl ?_
          refine gf_X5_23 hC (z_1 hZ 0 (by decide) rfl) rfl dX5_runScript_35 ?_
          refine r_aload_n hC dX5_runScript_38 0 rfl ?_
          refine gf_X5_19 hC (z_1 hZ 0 (by decide) rfl) rfl dX5_runScript_39 ?_
          refine r_callVV [] (fun r M1 h => c_X3_takeFrom (cx_st hC) hz hZ 1 0 _ (by decide) (by decide) r M1 h) hf cs_X5_73 hC (z_S hZ (by decide)) (q0 := (RX3, TX3, 4)) rfl rfl [.ref (Z.1 (iSt 0))] rfl rfl rfl (by decide) (by decide) (Nat.le_of_ble_eq_true rfl) (by decide) (by decide) dX5_runScript_42 (fun x3 M4 hf => ?_)
          refine r_iconst (v := 0) hC dX5_runScript_45 rfl ?_
          refine r_istore (L' := [(4, .int 0), (0, .ref (Z.1 0)), (1, .int v1), (2, .long w2)]) hC dX5_runScript_46 (by decide) rfl ?_
          refine r_L [1, 2, 3, 0] rfl ?_
          exact lq1_ind (P := fun (u4 : Int32) (M : Mem) => V X G Z M 0 0 (QT X G (QcTI G Z r M') (XcT G Z r M') 1 6) 48 [(0, .ref (Z.1 0)), (1, .int v1), (2, .long w2), (4, .int u4)] []) (fun kk hkk u4 M hf => w_X5_runScript_b48 hC hz hZ hno v1 w2 kk hkk u4 M hf) _ _ _ hf
        · have hf := if_F hf h
          exact r_throw hf hC hno th_iae dX5_runScript_26 dX5_runScript_29 dX5_runScript_30 dX5_runScript_33 (by decide) (by decide) (by decide) (by decide)
set_option maxRecDepth 20000 in
theorem c_X5_runScript {l : Launch} (hl : l.stackTraces = false) {G : GG} {Z : ZZ} (hz : ZOk G Z) (hZ : ZM Z) (v1 : Int32) (w2 : Int64) (M : Mem)  (r : Except Nat Int32) (M' : Mem) (hf : f_X5_runScript v1 w2 M = some (r, M')) : CTw (QcTI G Z r M') (XcT G Z r M') l G Z yX5_runScript cX5_runScript 5 (some .int) 7 1 6 [.ref (Z.1 0), .int v1, .long w2] M :=
  CTw.of [(0, .ref (Z.1 0)), (1, .int v1), (2, .long w2)] hl (by decide +kernel) (Nat.le_of_ble_eq_true rfl) rfl (fun _ hC hno => w_X5_runScript hC hz hZ hno v1 w2 M  hf)
set_option maxRecDepth 20000 in
theorem w_X5_simulateRound {X : XX} {G : GG} {Z : ZZ} (hC : Cx X G RX5 cX5_simulateRound none 5 0 0 5) (hz : ZOk G Z) (hZ : ZM Z) (v1 : Int32) (M : Mem)  {r : Unit} {M' : Mem} (hf : f_X5_simulateRound v1 M = some (r, M')) : V X G Z M 0 0 (QN X G (QcV G Z r M') 0 0) 0 [(0, .ref (Z.1 0)), (1, .int v1)] [] := by
  unfold f_X5_simulateRound at hf
  refine r_aload_n hC dX5_simulateRound_0 0 rfl ?_
  refine gf_X5_23 hC (z_1 hZ 0 (by decide) rfl) rfl dX5_simulateRound_1 ?_
  refine gf_X5_88 hC (z_S hZ (by decide)) rfl dX5_simulateRound_4 ?_
  refine r_iconst (v := 1) hC dX5_simulateRound_7 rfl ?_
  refine r_icmp_lt 22 hC dX5_simulateRound_8 (by decide) (fun h => ?_) (fun h => ?_)
  · have hf := if_T hf h
    exact r_vret hf hC (by decide) (by decide) dX5_simulateRound_22
  · have hf := if_F hf h
    refine r_aload_n hC dX5_simulateRound_11 0 rfl ?_
    refine gf_X5_23 hC (z_1 hZ 0 (by decide) rfl) rfl dX5_simulateRound_12 ?_
    refine gf_X5_80 hC (z_S hZ (by decide)) rfl dX5_simulateRound_15 ?_
    refine r_iconst (v := 1) hC dX5_simulateRound_18 rfl ?_
    refine r_icmp_ge 23 hC dX5_simulateRound_19 (by decide) (fun h => ?_) (fun h => ?_)
    · have hf := if_T hf h
      refine r_iload_n hC dX5_simulateRound_23 1 rfl ?_
      refine r_aload_n hC dX5_simulateRound_24 0 rfl ?_
      refine gf_X5_23 hC (z_1 hZ 0 (by decide) rfl) rfl dX5_simulateRound_25 ?_
      refine gf_X5_88 hC (z_S hZ (by decide)) rfl dX5_simulateRound_28 ?_
      have hne := if_K hf
      have hf := if_V hf
      refine r_irem hC dX5_simulateRound_31 hne ?_
      refine r_istore_n (L' := [(2, .int (v1 - v1 / (M (iSt 1) 2) * (M (iSt 1) 2))), (0, .ref (Z.1 0)), (1, .int v1)]) hC dX5_simulateRound_32 (by decide) rfl ?_
      refine r_iload_n hC dX5_simulateRound_33 2 rfl ?_
      refine r_iconst (v := 4) hC dX5_simulateRound_34 rfl ?_
      refine r_idiv hC dX5_simulateRound_35 (by decide) ?_
      refine r_aload_n hC dX5_simulateRound_36 1 rfl ?_
      refine gf_X5_23 hC (z_1 hZ 0 (by decide) rfl) rfl dX5_simulateRound_37 ?_
      refine gf_X5_80 hC (z_S hZ (by decide)) rfl dX5_simulateRound_40 ?_
      have hne := if_K hf
      have hf := if_V hf
      refine r_irem hC dX5_simulateRound_43 hne ?_
      refine r_istore_n (L' := [(3, .int ((v1 / 4) - (v1 / 4) / (M (iSt 1) 3) * (M (iSt 1) 3))), (2, .int (v1 - v1 / (M (iSt 1) 2) * (M (iSt 1) 2))), (0, .ref (Z.1 0)), (1, .int v1)]) hC dX5_simulateRound_44 (by decide) rfl ?_
      refine r_iload_n hC dX5_simulateRound_45 3 rfl ?_
      refine r_bipush (v := 64) hC dX5_simulateRound_46 rfl ?_
      refine r_idiv hC dX5_simulateRound_48 (by decide) ?_
      refine r_bipush (v := 64) hC dX5_simulateRound_49 rfl ?_
      refine r_irem hC dX5_simulateRound_51 (by decide) ?_
      refine r_istore (L' := [(4, .int ((v1 / 64) - (v1 / 64) / 64 * 64)), (3, .int ((v1 / 4) - (v1 / 4) / (M (iSt 1) 3) * (M (iSt 1) 3))), (2, .int (v1 - v1 / (M (iSt 1) 2) * (M (iSt 1) 2))), (0, .ref (Z.1 0)), (1, .int v1)]) hC dX5_simulateRound_52 (by decide) rfl ?_
      refine r_iload hC dX5_simulateRound_54 0 rfl ?_
      refine r_callSI [] (fun r M1 h => c_X3_isPitch (cx_st hC) hz hZ ((v1 / 64) - (v1 / 64) / 64 * 64) _  r M1 h) hf cs_X5_118 hC  rfl rfl (by decide) (by decide) (Nat.le_of_ble_eq_true rfl) (by decide) (by decide) dX5_simulateRound_56 (fun x1 M2 hf => ?_)
      refine r_if_eq 74 hC dX5_simulateRound_59 (by decide) (fun h => ?_) (fun h => ?_)
      · have hf := if_T hf h
        refine r_iload hC dX5_simulateRound_74 0 rfl ?_
        refine r_bipush (v := 61) hC dX5_simulateRound_76 rfl ?_
        refine r_icmp_ne 93 hC dX5_simulateRound_78 (by decide) (fun h => ?_) (fun h => ?_)
        · have hf := if_F hf h
          refine r_aload_n hC dX5_simulateRound_93 3 rfl ?_
          refine gf_X5_23 hC (z_1 hZ 0 (by decide) rfl) rfl dX5_simulateRound_94 ?_
          refine r_iload_n hC dX5_simulateRound_97 2 rfl ?_
          refine r_iload_n hC dX5_simulateRound_98 1 rfl ?_
          refine r_callVI [] (fun r M1 h => c_X3_allowsHold (cx_st hC) hz hZ 1 (v1 - v1 / (M (iSt 1) 2) * (M (iSt 1) 2)) ((v1 / 4) - (v1 / 4) / (M (iSt 1) 3) * (M (iSt 1) 3)) _ (by decide) r M1 h) hf cs_X5_122 hC (z_S hZ (by decide)) (q0 := (RX3, TX3, 4)) rfl rfl [.int (v1 - v1 / (M (iSt 1) 2) * (M (iSt 1) 2)), .int ((v1 / 4) - (v1 / 4) / (M (iSt 1) 3) * (M (iSt 1) 3))] rfl rfl rfl (by decide) (by decide) (Nat.le_of_ble_eq_true rfl) (by decide) (by decide) dX5_simulateRound_99 (fun x3 M4 hf => ?_)
          refine r_if_eq 114 hC dX5_simulateRound_102 (by decide) (fun h => ?_) (fun h => ?_)
          · have hf := if_T hf h
            exact r_vret hf hC (by decide) (by decide) dX5_simulateRound_114
          · have hf := if_F hf h
            refine r_aload_n hC dX5_simulateRound_105 3 rfl ?_
            refine r_iload_n hC dX5_simulateRound_106 2 rfl ?_
            refine r_iload_n hC dX5_simulateRound_107 1 rfl ?_
            refine r_bipush (v := 99) hC dX5_simulateRound_108 rfl ?_
            refine r_callVI [] (fun r M1 h => c_X5_triedCell (cx_st hC) hz hZ (v1 - v1 / (M (iSt 1) 2) * (M (iSt 1) 2)) ((v1 / 4) - (v1 / 4) / (M (iSt 1) 3) * (M (iSt 1) 3)) 99 _  r M1 h) hf cs_X5_223 hC (z_1 hZ 0 (by decide) rfl) (q0 := (RX5, TX5, 7)) rfl rfl [.int (v1 - v1 / (M (iSt 1) 2) * (M (iSt 1) 2)), .int ((v1 / 4) - (v1 / 4) / (M (iSt 1) 3) * (M (iSt 1) 3)), .int 99] rfl rfl rfl (by decide) (by decide) (Nat.le_of_ble_eq_true rfl) (by decide) (by decide) dX5_simulateRound_110 (fun x5 M6 hf => ?_)
            refine r_pop hC dX5_simulateRound_113 rfl ?_
            exact r_vret hf hC (by decide) (by decide) dX5_simulateRound_114
        · have hf := if_T hf h
          refine r_aload_n hC dX5_simulateRound_81 3 rfl ?_
          refine r_iload_n hC dX5_simulateRound_82 2 rfl ?_
          refine r_iload_n hC dX5_simulateRound_83 1 rfl ?_
          refine r_bipush (v := (-9)) hC dX5_simulateRound_84 rfl ?_
          refine r_callVI [] (fun r M1 h => c_X5_triedCell (cx_st hC) hz hZ (v1 - v1 / (M (iSt 1) 2) * (M (iSt 1) 2)) ((v1 / 4) - (v1 / 4) / (M (iSt 1) 3) * (M (iSt 1) 3)) (-9) _  r M1 h) hf cs_X5_223 hC (z_1 hZ 0 (by decide) rfl) (q0 := (RX5, TX5, 7)) rfl rfl [.int (v1 - v1 / (M (iSt 1) 2) * (M (iSt 1) 2)), .int ((v1 / 4) - (v1 / 4) / (M (iSt 1) 3) * (M (iSt 1) 3)), .int (-9)] rfl rfl rfl (by decide) (by decide) (Nat.le_of_ble_eq_true rfl) (by decide) (by decide) dX5_simulateRound_86 (fun x7 M8 hf => ?_)
          refine r_pop hC dX5_simulateRound_89 rfl ?_
          refine r_goto 114 hC dX5_simulateRound_90 (by decide) ?_
          exact r_vret hf hC (by decide) (by decide) dX5_simulateRound_114
      · have hf := if_F hf h
        refine r_aload_n hC dX5_simulateRound_62 3 rfl ?_
        refine r_iload_n hC dX5_simulateRound_63 2 rfl ?_
        refine r_iload_n hC dX5_simulateRound_64 1 rfl ?_
        refine r_iload hC dX5_simulateRound_65 0 rfl ?_
        refine r_callVI [] (fun r M1 h => c_X5_triedCell (cx_st hC) hz hZ (v1 - v1 / (M (iSt 1) 2) * (M (iSt 1) 2)) ((v1 / 4) - (v1 / 4) / (M (iSt 1) 3) * (M (iSt 1) 3)) ((v1 / 64) - (v1 / 64) / 64 * 64) _  r M1 h) hf cs_X5_223 hC (z_1 hZ 0 (by decide) rfl) (q0 := (RX5, TX5, 7)) rfl rfl [.int (v1 - v1 / (M (iSt 1) 2) * (M (iSt 1) 2)), .int ((v1 / 4) - (v1 / 4) / (M (iSt 1) 3) * (M (iSt 1) 3)), .int ((v1 / 64) - (v1 / 64) / 64 * 64)] rfl rfl rfl (by decide) (by decide) (Nat.le_of_ble_eq_true rfl) (by decide) (by decide) dX5_simulateRound_67 (fun x9 M10 hf => ?_)
        refine r_pop hC dX5_simulateRound_70 rfl ?_
        refine r_goto 114 hC dX5_simulateRound_71 (by decide) ?_
        exact r_vret hf hC (by decide) (by decide) dX5_simulateRound_114
    · have hf := if_F hf h
      exact r_vret hf hC (by decide) (by decide) dX5_simulateRound_22
set_option maxRecDepth 20000 in
theorem c_X5_simulateRound {l : Launch} (hl : l.stackTraces = false) {G : GG} {Z : ZZ} (hz : ZOk G Z) (hZ : ZM Z) (v1 : Int32) (M : Mem)  (r : Unit) (M' : Mem) (hf : f_X5_simulateRound v1 M = some (r, M')) : CN (QcV G Z r M') l G Z yX5_simulateRound cX5_simulateRound 5 none 5 [.ref (Z.1 0), .int v1] M :=
  CN.of [(0, .ref (Z.1 0)), (1, .int v1)] hl (by decide +kernel) (Nat.le_of_ble_eq_true rfl) rfl (fun _ hC => w_X5_simulateRound hC hz hZ v1 M  hf)
set_option maxRecDepth 20000 in
theorem w_X5_simulate_b113 {X : XX} {G : GG} {Z : ZZ} {r : Except Nat Int32} {M' : Mem} (hC : Cx X G RX5 cX5_simulate (some .int) 6 1 6 8) (hz : ZOk G Z) (hZ : ZM Z) (hno : ∀ x ∈ (xc X).exceptionTable.toList, False) (v6 : Int32) (M : Mem) (hf : f_X5_simulate_b113 v6 M = some (r, M')) : V X G Z M 0 0 (QT X G (QcTI G Z r M') (XcT G Z r M') 1 6) 113 [(0, .ref (Z.1 0)), (6, .int v6)] [] := by
  unfold f_X5_simulate_b113 at hf
  refine r_aload_n hC dX5_simulate_113 0 rfl ?_
  refine gf_X5_29 hC (z_1 hZ 0 (by decide) rfl) rfl dX5_simulate_114 ?_
  refine r_iconst (v := 0) hC dX5_simulate_117 rfl ?_
  refine r_callVI [] (fun r M1 h => c_X2_numberOfWhole (cx_st hC) hz hZ 0 _  r M1 h) hf cs_X5_185 hC (z_1 hZ 7 (by decide) rfl) (q0 := (RX2, TX2, 5)) rfl rfl [.int 0] rfl rfl rfl (by decide) (by decide) (Nat.le_of_ble_eq_true rfl) (by decide) (by decide) dX5_simulate_118 (fun x9 M10 hf => ?_)
  refine r_sipush (v := 1000) hC dX5_simulate_121 rfl ?_
  refine r_iload hC dX5_simulate_124 1 rfl ?_
  refine r_imul hC dX5_simulate_126 ?_
  refine r_iadd hC dX5_simulate_127 ?_
  exact r_iretT hf hC (by decide) (by decide) dX5_simulate_128
set_option maxRecDepth 20000 in
theorem w_X5_simulate_b87 {X : XX} {G : GG} {Z : ZZ} {r : Except Nat Int32} {M' : Mem} (hC : Cx X G RX5 cX5_simulate (some .int) 6 1 6 8) (hz : ZOk G Z) (hZ : ZM Z) (hno : ∀ x ∈ (xc X).exceptionTable.toList, False) (k87 : Int32 → Int32 → Mem → Option (Except Nat Int32 × Mem)) (hk87 : ∀ (u6 : Int32) (u7 : Int32) (M : Mem), k87 u6 u7 M = some (r, M') → V X G Z M 0 0 (QT X G (QcTI G Z r M') (XcT G Z r M') 1 6) 87 [(0, .ref (Z.1 0)), (6, .int u6), (7, .int u7)] []) (v6 : Int32) (v7 : Int32) (M : Mem) (hf : f_X5_simulate_b87 k87 v6 v7 M = some (r, M')) : V X G Z M 0 0 (QT X G (QcTI G Z r M') (XcT G Z r M') 1 6) 87 [(0, .ref (Z.1 0)), (6, .int v6), (7, .int v7)] [] := by
  unfold f_X5_simulate_b87 at hf
  refine r_iload hC dX5_simulate_87 2 rfl ?_
  refine r_iconst (v := 3) hC dX5_simulate_89 rfl ?_
  refine r_icmp_gt 113 hC dX5_simulate_90 (by decide) (fun h => ?_) (fun h => ?_)
  · have hf := if_T hf h
    refine r_L [0, 1] rfl ?_
    exact w_X5_simulate_b113 hC hz hZ hno v6 _ hf
  · have hf := if_F hf h
    refine r_iload hC dX5_simulate_93 1 rfl ?_
    refine r_aload_n hC dX5_simulate_95 0 rfl ?_
    refine gf_X5_29 hC (z_1 hZ 0 (by decide) rfl) rfl dX5_simulate_96 ?_
    refine r_iload hC dX5_simulate_99 2 rfl ?_
    refine r_callVI [.int v6] (fun r M1 h => c_X2_numberOfWhole (cx_st hC) hz hZ v7 _  r M1 h) hf cs_X5_185 hC (z_1 hZ 7 (by decide) rfl) (q0 := (RX2, TX2, 5)) rfl rfl [.int v7] rfl rfl rfl (by decide) (by decide) (Nat.le_of_ble_eq_true rfl) (by decide) (by decide) dX5_simulate_101 (fun x7 M8 hf => ?_)
    refine r_iadd hC dX5_simulate_104 ?_
    refine r_istore (L' := [(6, .int (v6 + x7)), (0, .ref (Z.1 0)), (7, .int v7)]) hC dX5_simulate_105 (by decide) rfl ?_
    refine r_iinc (v := v7 + 1) (L' := [(7, .int (v7 + 1)), (6, .int (v6 + x7)), (0, .ref (Z.1 0))]) hC dX5_simulate_107 2 rfl rfl (by decide) rfl ?_
    refine r_goto 87 hC dX5_simulate_110 (by decide) ?_
    refine r_L [2, 1, 0] rfl ?_
    exact hk87 _ _ _ hf
set_option maxRecDepth 20000 in
theorem w_X5_simulate_b70 {X : XX} {G : GG} {Z : ZZ} {r : Except Nat Int32} {M' : Mem} (hC : Cx X G RX5 cX5_simulate (some .int) 6 1 6 8) (hz : ZOk G Z) (hZ : ZM Z) (hno : ∀ x ∈ (xc X).exceptionTable.toList, False)  (M : Mem) (hf : f_X5_simulate_b70  M = some (r, M')) : V X G Z M 0 0 (QT X G (QcTI G Z r M') (XcT G Z r M') 1 6) 70 [(0, .ref (Z.1 0))] [] := by
  unfold f_X5_simulate_b70 at hf
  refine r_aload_n hC dX5_simulate_70 0 rfl ?_
  refine gf_X5_29 hC (z_1 hZ 0 (by decide) rfl) rfl dX5_simulate_71 ?_
  refine r_aload_n hC dX5_simulate_74 0 rfl ?_
  refine gf_X5_23 hC (z_1 hZ 0 (by decide) rfl) rfl dX5_simulate_75 ?_
  refine r_callVV [] (fun r M1 h => c_X2_make (cx_st hC) hz hZ 1 _ (by decide) r M1 h) hf cs_X5_172 hC (z_1 hZ 7 (by decide) rfl) (q0 := (RX2, TX2, 5)) rfl rfl [.ref (Z.1 (iSt 1))] rfl rfl rfl (by decide) (by decide) (Nat.le_of_ble_eq_true rfl) (by decide) (by decide) dX5_simulate_78 (fun x5 M6 hf => ?_)
  refine r_iconst (v := 0) hC dX5_simulate_81 rfl ?_
  refine r_istore (L' := [(6, .int 0), (0, .ref (Z.1 0))]) hC dX5_simulate_82 (by decide) rfl ?_
  refine r_iconst (v := 1) hC dX5_simulate_84 rfl ?_
  refine r_istore (L' := [(7, .int 1), (6, .int 0), (0, .ref (Z.1 0))]) hC dX5_simulate_85 (by decide) rfl ?_
  refine r_L [2, 1, 0] rfl ?_
  exact lq2_ind (P := fun (u6 : Int32) (u7 : Int32) (M : Mem) => V X G Z M 0 0 (QT X G (QcTI G Z r M') (XcT G Z r M') 1 6) 87 [(0, .ref (Z.1 0)), (6, .int u6), (7, .int u7)] []) (fun kk hkk u6 u7 M hf => w_X5_simulate_b87 hC hz hZ hno  kk hkk u6 u7 M hf) _ _ _ _ hf
set_option maxRecDepth 20000 in
theorem w_X5_simulate_b36 {X : XX} {G : GG} {Z : ZZ} {r : Except Nat Int32} {M' : Mem} (hC : Cx X G RX5 cX5_simulate (some .int) 6 1 6 8) (hz : ZOk G Z) (hZ : ZM Z) (hno : ∀ x ∈ (xc X).exceptionTable.toList, False) (v3 : Int32) (k36 : Int64 → Int32 → Mem → Option (Except Nat Int32 × Mem)) (hk36 : ∀ (u4 : Int64) (u6 : Int32) (M : Mem), k36 u4 u6 M = some (r, M') → V X G Z M 0 0 (QT X G (QcTI G Z r M') (XcT G Z r M') 1 6) 36 [(0, .ref (Z.1 0)), (3, .int v3), (4, .long u4), (6, .int u6)] []) (w4 : Int64) (v6 : Int32) (M : Mem) (hf : f_X5_simulate_b36 v3 k36 w4 v6 M = some (r, M')) : V X G Z M 0 0 (QT X G (QcTI G Z r M') (XcT G Z r M') 1 6) 36 [(0, .ref (Z.1 0)), (3, .int v3), (4, .long w4), (6, .int v6)] [] := by
  unfold f_X5_simulate_b36 at hf
  refine r_iload hC dX5_simulate_36 3 rfl ?_
  refine r_iload_n hC dX5_simulate_38 1 rfl ?_
  refine r_icmp_ge 70 hC dX5_simulate_39 (by decide) (fun h => ?_) (fun h => ?_)
  · have hf := if_T hf h
    refine r_L [0] rfl ?_
    exact w_X5_simulate_b70 hC hz hZ hno  _ hf
  · have hf := if_F hf h
    refine r_lload hC dX5_simulate_42 2 rfl ?_
    refine r_ldc2 (v := 6364136223846793005) hC dX5_simulate_44 kw_X5_204 ?_
    refine r_lmul hC dX5_simulate_47 ?_
    refine r_ldc2 (v := 1442695040888963407) hC dX5_simulate_48 kw_X5_206 ?_
    refine r_ladd hC dX5_simulate_51 ?_
    refine r_lstore (L' := [(4, .long ((w4 * 6364136223846793005) + 1442695040888963407)), (0, .ref (Z.1 0)), (3, .int v3), (6, .int v6)]) hC dX5_simulate_52 (by decide) rfl ?_
    refine r_aload_n hC dX5_simulate_54 1 rfl ?_
    refine r_lload hC dX5_simulate_55 0 rfl ?_
    refine r_bipush (v := 33) hC dX5_simulate_57 rfl ?_
    refine r_lushr hC dX5_simulate_59 ?_
    refine r_l2i hC dX5_simulate_60 ?_
    refine r_callVV [] (fun r M1 h => c_X5_simulateRound (cx_st hC) hz hZ (Int64.toInt32 ((Int64.toUInt64 ((w4 * 6364136223846793005) + 1442695040888963407) >>> ((Int32.toInt64 33).toUInt64 &&& Int64.toUInt64 63)).toInt64)) _  r M1 h) hf cs_X5_208 hC (z_1 hZ 0 (by decide) rfl) (q0 := (RX5, TX5, 7)) rfl rfl [.int (Int64.toInt32 ((Int64.toUInt64 ((w4 * 6364136223846793005) + 1442695040888963407) >>> ((Int32.toInt64 33).toUInt64 &&& Int64.toUInt64 63)).toInt64))] rfl rfl rfl (by decide) (by decide) (Nat.le_of_ble_eq_true rfl) (by decide) (by decide) dX5_simulate_61 (fun x3 M4 hf => ?_)
    refine r_iinc (v := v6 + 1) (L' := [(6, .int (v6 + 1)), (4, .long ((w4 * 6364136223846793005) + 1442695040888963407)), (0, .ref (Z.1 0)), (3, .int v3)]) hC dX5_simulate_64 3 rfl rfl (by decide) rfl ?_
    refine r_goto 36 hC dX5_simulate_67 (by decide) ?_
    refine r_L [2, 3, 1, 0] rfl ?_
    exact hk36 _ _ _ hf
set_option maxRecDepth 20000 in
theorem w_X5_simulate {X : XX} {G : GG} {Z : ZZ} (hC : Cx X G RX5 cX5_simulate (some .int) 6 1 6 8) (hz : ZOk G Z) (hZ : ZM Z) (hno : ∀ x ∈ (xc X).exceptionTable.toList, False) (w1 : Int64) (v3 : Int32) (M : Mem)  {r : Except Nat Int32} {M' : Mem} (hf : f_X5_simulate w1 v3 M = some (r, M')) : V X G Z M 0 0 (QT X G (QcTI G Z r M') (XcT G Z r M') 1 6) 0 [(0, .ref (Z.1 0)), (1, .long w1), (3, .int v3)] [] := by
  unfold f_X5_simulate at hf
  refine r_iload_n hC dX5_simulate_0 2 rfl ?_
  refine r_iconst (v := 1) hC dX5_simulate_1 rfl ?_
  refine r_icmp_lt 11 hC dX5_simulate_2 (by decide) (fun h => ?_) (fun h => ?_)
  · have hf := if_T hf h
    exact r_throw hf hC hno th_iae dX5_simulate_11 dX5_simulate_14 dX5_simulate_15 dX5_simulate_18 (by decide) (by decide) (by decide) (by decide)
  · have hf := if_F hf h
    refine r_iload_n hC dX5_simulate_5 2 rfl ?_
    refine r_bipush (v := 40) hC dX5_simulate_6 rfl ?_
    refine r_icmp_le 19 hC dX5_simulate_8 (by decide) (fun h => ?_) (fun h => ?_)
    · have hf := if_T hf h
      refine r_aload_n hC dX5_simulate_19 0 rfl ?_
      refine gf_X5_23 hC (z_1 hZ 0 (by decide) rfl) rfl dX5_simulate_20 ?_
      refine r_aload_n hC dX5_simulate_23 0 rfl ?_
      refine gf_X5_19 hC (z_1 hZ 0 (by decide) rfl) rfl dX5_simulate_24 ?_
      refine r_callVV [] (fun r M1 h => c_X3_takeFrom (cx_st hC) hz hZ 1 0 _ (by decide) (by decide) r M1 h) hf cs_X5_73 hC (z_S hZ (by decide)) (q0 := (RX3, TX3, 4)) rfl rfl [.ref (Z.1 (iSt 0))] rfl rfl rfl (by decide) (by decide) (Nat.le_of_ble_eq_true rfl) (by decide) (by decide) dX5_simulate_27 (fun x1 M2 hf => ?_)
      refine r_lload_n hC dX5_simulate_30 1 rfl ?_
      refine r_lstore (L' := [(4, .long w1), (0, .ref (Z.1 0)), (1, .long w1), (3, .int v3)]) hC dX5_simulate_31 (by decide) rfl ?_
      refine r_iconst (v := 0) hC dX5_simulate_33 rfl ?_
      refine r_istore (L' := [(6, .int 0), (4, .long w1), (0, .ref (Z.1 0)), (1, .long w1), (3, .int v3)]) hC dX5_simulate_34 (by decide) rfl ?_
      refine r_L [2, 4, 1, 0] rfl ?_
      exact lq2_ind (P := fun (u4 : Int64) (u6 : Int32) (M : Mem) => V X G Z M 0 0 (QT X G (QcTI G Z r M') (XcT G Z r M') 1 6) 36 [(0, .ref (Z.1 0)), (3, .int v3), (4, .long u4), (6, .int u6)] []) (fun kk hkk u4 u6 M hf => w_X5_simulate_b36 hC hz hZ hno v3 kk hkk u4 u6 M hf) _ _ _ _ hf
    · have hf := if_F hf h
      exact r_throw hf hC hno th_iae dX5_simulate_11 dX5_simulate_14 dX5_simulate_15 dX5_simulate_18 (by decide) (by decide) (by decide) (by decide)
set_option maxRecDepth 20000 in
theorem c_X5_simulate {l : Launch} (hl : l.stackTraces = false) {G : GG} {Z : ZZ} (hz : ZOk G Z) (hZ : ZM Z) (w1 : Int64) (v3 : Int32) (M : Mem)  (r : Except Nat Int32) (M' : Mem) (hf : f_X5_simulate w1 v3 M = some (r, M')) : CTw (QcTI G Z r M') (XcT G Z r M') l G Z yX5_simulate cX5_simulate 8 (some .int) 6 1 6 [.ref (Z.1 0), .long w1, .int v3] M :=
  CTw.of [(0, .ref (Z.1 0)), (1, .long w1), (3, .int v3)] hl (by decide +kernel) (Nat.le_of_ble_eq_true rfl) rfl (fun _ hC hno => w_X5_simulate hC hz hZ hno w1 v3 M  hf)
set_option maxRecDepth 20000 in
theorem w_X5_requireSlot {X : XX} {G : GG} {Z : ZZ} (hC : Cx X G RX5 cX5_requireSlot none 6 1 6 1) (hz : ZOk G Z) (hZ : ZM Z) (hno : ∀ x ∈ (xc X).exceptionTable.toList, False) (v0 : Int32) (M : Mem)  {r : Except Nat Unit} {M' : Mem} (hf : f_X5_requireSlot v0 M = some (r, M')) : V X G Z M 0 0 (QT X G (QcTV G Z r M') (XcT G Z r M') 1 6) 0 [(0, .int v0)] [] := by
  unfold f_X5_requireSlot at hf
  refine r_iload_n hC dX5_requireSlot_0 0 rfl ?_
  refine r_if_lt 9 hC dX5_requireSlot_1 (by decide) (fun h => ?_) (fun h => ?_)
  · have hf := if_T hf h
    exact r_throw hf hC hno th_iob dX5_requireSlot_9 dX5_requireSlot_12 dX5_requireSlot_13 dX5_requireSlot_16 (by decide) (by decide) (by decide) (by decide)
  · have hf := if_F hf h
    refine r_iload_n hC dX5_requireSlot_4 0 rfl ?_
    refine r_iconst (v := 2) hC dX5_requireSlot_5 rfl ?_
    refine r_icmp_lt 17 hC dX5_requireSlot_6 (by decide) (fun h => ?_) (fun h => ?_)
    · have hf := if_T hf h
      exact r_vretT hf hC (by decide) (by decide) dX5_requireSlot_17
    · have hf := if_F hf h
      exact r_throw hf hC hno th_iob dX5_requireSlot_9 dX5_requireSlot_12 dX5_requireSlot_13 dX5_requireSlot_16 (by decide) (by decide) (by decide) (by decide)
set_option maxRecDepth 20000 in
theorem c_X5_requireSlot {l : Launch} (hl : l.stackTraces = false) {G : GG} {Z : ZZ} (hz : ZOk G Z) (hZ : ZM Z) (v0 : Int32) (M : Mem)  (r : Except Nat Unit) (M' : Mem) (hf : f_X5_requireSlot v0 M = some (r, M')) : CTw (QcTV G Z r M') (XcT G Z r M') l G Z yX5_requireSlot cX5_requireSlot 1 none 6 1 6 [.int v0] M :=
  CTw.of [(0, .int v0)] hl (by decide +kernel) (Nat.le_of_ble_eq_true rfl) rfl (fun _ hC hno => w_X5_requireSlot hC hz hZ hno v0 M  hf)
set_option maxRecDepth 20000 in
theorem wk_X5_requireSlot {X : XX} {G : GG} {Z : ZZ} (hC : Cx X G RX5 cX5_requireSlot none 6 0 0 1) (hz : ZOk G Z) (hZ : ZM Z) (v0 : Int32) (M : Mem)  {r : Unit} {M' : Mem} (hf : f_X5_requireSlot v0 M = some (.ok r, M')) : V X G Z M 0 0 (QN X G (QcV G Z r M') 0 0) 0 [(0, .int v0)] [] := by
  unfold f_X5_requireSlot at hf
  refine r_iload_n hC dX5_requireSlot_0 0 rfl ?_
  refine r_if_lt 9 hC dX5_requireSlot_1 (by decide) (fun h => ?_) (fun h => ?_)
  · have hf := if_T hf h
    cases hf
  · have hf := if_F hf h
    refine r_iload_n hC dX5_requireSlot_4 0 rfl ?_
    refine r_iconst (v := 2) hC dX5_requireSlot_5 rfl ?_
    refine r_icmp_lt 17 hC dX5_requireSlot_6 (by decide) (fun h => ?_) (fun h => ?_)
    · have hf := if_T hf h
      exact r_vret (by cases hf; rfl) hC (by decide) (by decide) dX5_requireSlot_17
    · have hf := if_F hf h
      cases hf
set_option maxRecDepth 20000 in
theorem k_X5_requireSlot {l : Launch} (hl : l.stackTraces = false) {G : GG} {Z : ZZ} (hz : ZOk G Z) (hZ : ZM Z) (v0 : Int32) (M : Mem)  (r : Unit) (M' : Mem) (hf : f_X5_requireSlot v0 M = some (.ok r, M')) : CN (QcV G Z r M') l G Z yX5_requireSlot cX5_requireSlot 1 none 6 [.int v0] M :=
  CN.of [(0, .int v0)] hl (by decide +kernel) (Nat.le_of_ble_eq_true rfl) rfl (fun _ hC => wk_X5_requireSlot hC hz hZ v0 M hf)
set_option maxRecDepth 20000 in
theorem w_X5_save {X : XX} {G : GG} {Z : ZZ} (hC : Cx X G RX5 cX5_save (some .int) 7 1 6 2) (hz : ZOk G Z) (hZ : ZM Z) (hno : ∀ x ∈ (xc X).exceptionTable.toList, False) (v1 : Int32) (M : Mem)  {r : Except Nat Int32} {M' : Mem} (hf : f_X5_save v1 M = some (r, M')) : V X G Z M 0 0 (QT X G (QcTI G Z r M') (XcT G Z r M') 1 6) 0 [(0, .ref (Z.1 0)), (1, .int v1)] [] := by
  unfold f_X5_save at hf
  refine r_iload_n hC dX5_save_0 1 rfl ?_
  refine r_tcallSV [] (fun r M1 h => c_X5_requireSlot (cx_st hC) hz hZ v1 _  r M1 h) (fun r M1 h => k_X5_requireSlot (cx_st hC) hz hZ v1 _  r M1 h) hf cs_X5_211 hC hno  rfl rfl (by decide) (by decide) (Nat.le_of_ble_eq_true rfl) (by decide) (by decide) dX5_save_1 (fun x1 M2 hf => ?_)
  refine r_aload_n hC dX5_save_4 0 rfl ?_
  refine gf_X5_40 hC (z_1 hZ 0 (by decide) rfl) rfl dX5_save_5 ?_
  refine r_iload_n hC dX5_save_8 1 rfl ?_
  have hin3 := if_K hf
  have hf := if_V hf
  refine r_aald hC (z_1 hZ 5 (by decide) rfl) rfl (inb_vp hin3) rfl dX5_save_9 ?_
  refine r_aload_n hC dX5_save_10 0 rfl ?_
  refine gf_X5_19 hC (z_1 hZ 0 (by decide) rfl) rfl dX5_save_11 ?_
  refine r_callVV [] (fun r M1 h => c_X3_takeFrom (cx_st hC) hz hZ (2 + Int32.toNatClampNeg v1) 0 _ (st_slot hin3) (by decide) r M1 h) hf cs_X5_73 hC (z_S hZ (st_slot hin3)) (q0 := (RX3, TX3, 4)) rfl rfl [.ref (Z.1 (iSt 0))] rfl rfl rfl (by decide) (by decide) (Nat.le_of_ble_eq_true rfl) (by decide) (by decide) dX5_save_14 (fun x4 M5 hf => ?_)
  refine r_aload_n hC dX5_save_17 0 rfl ?_
  refine gf_X5_44 hC (z_1 hZ 0 (by decide) rfl) rfl dX5_save_18 ?_
  refine r_iload_n hC dX5_save_21 1 rfl ?_
  refine r_iconst (v := 1) hC dX5_save_22 rfl ?_
  have hin := if_K hf
  have hf := if_V hf
  refine r_zast hC hz (z_1 hZ 6 (by decide) rfl) (inb_vp hin) dX5_save_23 ?_
  refine r_aload_n hC dX5_save_24 0 rfl ?_
  refine gf_X5_19 hC (z_1 hZ 0 (by decide) rfl) rfl dX5_save_25 ?_
  refine gf_X5_80 hC (z_S hZ (by decide)) rfl dX5_save_28 ?_
  exact r_iretT hf hC (by decide) (by decide) dX5_save_31
set_option maxRecDepth 20000 in
theorem c_X5_save {l : Launch} (hl : l.stackTraces = false) {G : GG} {Z : ZZ} (hz : ZOk G Z) (hZ : ZM Z) (v1 : Int32) (M : Mem)  (r : Except Nat Int32) (M' : Mem) (hf : f_X5_save v1 M = some (r, M')) : CTw (QcTI G Z r M') (XcT G Z r M') l G Z yX5_save cX5_save 2 (some .int) 7 1 6 [.ref (Z.1 0), .int v1] M :=
  CTw.of [(0, .ref (Z.1 0)), (1, .int v1)] hl (by decide +kernel) (Nat.le_of_ble_eq_true rfl) rfl (fun _ hC hno => w_X5_save hC hz hZ hno v1 M  hf)
set_option maxRecDepth 20000 in
theorem w_X5_restore {X : XX} {G : GG} {Z : ZZ} (hC : Cx X G RX5 cX5_restore (some .int) 7 1 6 2) (hz : ZOk G Z) (hZ : ZM Z) (hno : ∀ x ∈ (xc X).exceptionTable.toList, False) (v1 : Int32) (M : Mem)  {r : Except Nat Int32} {M' : Mem} (hf : f_X5_restore v1 M = some (r, M')) : V X G Z M 0 0 (QT X G (QcTI G Z r M') (XcT G Z r M') 1 6) 0 [(0, .ref (Z.1 0)), (1, .int v1)] [] := by
  unfold f_X5_restore at hf
  refine r_iload_n hC dX5_restore_0 1 rfl ?_
  refine r_tcallSV [] (fun r M1 h => c_X5_requireSlot (cx_st hC) hz hZ v1 _  r M1 h) (fun r M1 h => k_X5_requireSlot (cx_st hC) hz hZ v1 _  r M1 h) hf cs_X5_211 hC hno  rfl rfl (by decide) (by decide) (Nat.le_of_ble_eq_true rfl) (by decide) (by decide) dX5_restore_1 (fun x1 M2 hf => ?_)
  refine r_aload_n hC dX5_restore_4 0 rfl ?_
  refine gf_X5_44 hC (z_1 hZ 0 (by decide) rfl) rfl dX5_restore_5 ?_
  refine r_iload_n hC dX5_restore_8 1 rfl ?_
  have hin := if_K hf
  have hf := if_V hf
  refine r_zald hC (z_1 hZ 6 (by decide) rfl) (inb_vp hin) dX5_restore_9 ?_
  refine r_if_ne 21 hC dX5_restore_10 (by decide) (fun h => ?_) (fun h => ?_)
  · have hf := if_F hf h
    refine r_aload_n hC dX5_restore_21 0 rfl ?_
    refine gf_X5_19 hC (z_1 hZ 0 (by decide) rfl) rfl dX5_restore_22 ?_
    refine r_aload_n hC dX5_restore_25 0 rfl ?_
    refine gf_X5_40 hC (z_1 hZ 0 (by decide) rfl) rfl dX5_restore_26 ?_
    refine r_iload_n hC dX5_restore_29 1 rfl ?_
    have hin3 := if_K hf
    have hf := if_V hf
    refine r_aald hC (z_1 hZ 5 (by decide) rfl) rfl (inb_vp hin3) rfl dX5_restore_30 ?_
    refine r_callVV [] (fun r M1 h => c_X3_takeFrom (cx_st hC) hz hZ 0 (2 + Int32.toNatClampNeg v1) _ (by decide) (st_slot hin3) r M1 h) hf cs_X5_73 hC (z_S hZ (by decide)) (q0 := (RX3, TX3, 4)) rfl rfl [.ref (Z.1 (iSt (2 + Int32.toNatClampNeg v1)))] rfl rfl rfl (by decide) (by decide) (Nat.le_of_ble_eq_true rfl) (by decide) (by decide) dX5_restore_31 (fun x4 M5 hf => ?_)
    refine r_aload_n hC dX5_restore_34 0 rfl ?_
    refine gf_X5_36 hC (z_1 hZ 0 (by decide) rfl) rfl dX5_restore_35 ?_
    refine r_callVV [] (fun r M1 h => c_X1_forget (cx_st hC) hz hZ  _  r M1 h) hf cs_X5_77 hC (z_1 hZ 3 (by decide) rfl) (q0 := (RX1, TX1, 3)) rfl rfl [] rfl rfl rfl (by decide) (by decide) (Nat.le_of_ble_eq_true rfl) (by decide) (by decide) dX5_restore_38 (fun x6 M7 hf => ?_)
    refine r_aload_n hC dX5_restore_41 0 rfl ?_
    refine gf_X5_19 hC (z_1 hZ 0 (by decide) rfl) rfl dX5_restore_42 ?_
    refine gf_X5_80 hC (z_S hZ (by decide)) rfl dX5_restore_45 ?_
    exact r_iretT hf hC (by decide) (by decide) dX5_restore_48
  · have hf := if_T hf h
    exact r_throw hf hC hno th_ise dX5_restore_13 dX5_restore_16 dX5_restore_17 dX5_restore_20 (by decide) (by decide) (by decide) (by decide)
set_option maxRecDepth 20000 in
theorem c_X5_restore {l : Launch} (hl : l.stackTraces = false) {G : GG} {Z : ZZ} (hz : ZOk G Z) (hZ : ZM Z) (v1 : Int32) (M : Mem)  (r : Except Nat Int32) (M' : Mem) (hf : f_X5_restore v1 M = some (r, M')) : CTw (QcTI G Z r M') (XcT G Z r M') l G Z yX5_restore cX5_restore 2 (some .int) 7 1 6 [.ref (Z.1 0), .int v1] M :=
  CTw.of [(0, .ref (Z.1 0)), (1, .int v1)] hl (by decide +kernel) (Nat.le_of_ble_eq_true rfl) rfl (fun _ hC hno => w_X5_restore hC hz hZ hno v1 M  hf)
